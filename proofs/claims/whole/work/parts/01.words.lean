-- ===== PART A: goes FIRST, ahead of the names: the tables' words, and 'selects' of the private methods out of them =====
/-- a private method of a class that the tables say can be made, by its rows of tables_1 -/
def lw_okq (q : MethodName × Nat) : Prop := (q.1.cls ≠ "java/lang/invoke/MethodHandle" ∧ q.1.cls ≠ "java/lang/invoke/VarHandle") ∧ Cond.instantiable q.1.cls q.2 ∈ tables_1 ∧ Cond.privateMethod q.1 ∈ tables_1 ∧ Cond.instanceMethod q.1 ∈ tables_1
theorem lw_p0 : lw_okq (⟨"TradedDesigns$SetUp", "passSign", "(I)Z"⟩, 6) := ⟨⟨by decide +kernel, by decide +kernel⟩, List.mem_of_getElem? (i := 232) (by decide +kernel), List.mem_of_getElem? (i := 484) (by decide +kernel), List.mem_of_getElem? (i := 485) (by decide +kernel)⟩
theorem lw_p1 : lw_okq (⟨"TradedDesigns$SetUp", "parseClause", "(I)Z"⟩, 6) := ⟨⟨by decide +kernel, by decide +kernel⟩, List.mem_of_getElem? (i := 232) (by decide +kernel), List.mem_of_getElem? (i := 488) (by decide +kernel), List.mem_of_getElem? (i := 489) (by decide +kernel)⟩
theorem lw_p2 : lw_okq (⟨"TradedDesigns$SetUp", "parseWord", "()I"⟩, 6) := ⟨⟨by decide +kernel, by decide +kernel⟩, List.mem_of_getElem? (i := 232) (by decide +kernel), List.mem_of_getElem? (i := 492) (by decide +kernel), List.mem_of_getElem? (i := 493) (by decide +kernel)⟩
theorem lw_p3 : lw_okq (⟨"TradedDesigns$SetUp", "signsAlike", "(Ljava/lang/String;)I"⟩, 6) := ⟨⟨by decide +kernel, by decide +kernel⟩, List.mem_of_getElem? (i := 232) (by decide +kernel), List.mem_of_getElem? (i := 507) (by decide +kernel), List.mem_of_getElem? (i := 508) (by decide +kernel)⟩
theorem lw_p4 : lw_okq (⟨"TradedDesigns$SetUp", "parseNumber", "(I)Z"⟩, 6) := ⟨⟨by decide +kernel, by decide +kernel⟩, List.mem_of_getElem? (i := 232) (by decide +kernel), List.mem_of_getElem? (i := 563) (by decide +kernel), List.mem_of_getElem? (i := 564) (by decide +kernel)⟩
theorem lw_p5 : lw_okq (⟨"TradedDesigns", "doClause", "(IIII)I"⟩, 9) := ⟨⟨by decide +kernel, by decide +kernel⟩, List.mem_of_getElem? (i := 21) (by decide +kernel), List.mem_of_getElem? (i := 571) (by decide +kernel), List.mem_of_getElem? (i := 572) (by decide +kernel)⟩
theorem lw_p6 : lw_okq (⟨"TradedDesigns$Standing", "signOfTerm", "(II)I"⟩, 4) := ⟨⟨by decide +kernel, by decide +kernel⟩, List.mem_of_getElem? (i := 77) (by decide +kernel), List.mem_of_getElem? (i := 654) (by decide +kernel), List.mem_of_getElem? (i := 655) (by decide +kernel)⟩
theorem lw_p7 : lw_okq (⟨"TradedDesigns$OpenTwists", "judgeTwist", "(LTradedDesigns$Standing;I)V"⟩, 4) := ⟨⟨by decide +kernel, by decide +kernel⟩, List.mem_of_getElem? (i := 175) (by decide +kernel), List.mem_of_getElem? (i := 673) (by decide +kernel), List.mem_of_getElem? (i := 674) (by decide +kernel)⟩
theorem lw_p8 : lw_okq (⟨"TradedDesigns$OpenTwists", "leastPoint", "(I)I"⟩, 4) := ⟨⟨by decide +kernel, by decide +kernel⟩, List.mem_of_getElem? (i := 175) (by decide +kernel), List.mem_of_getElem? (i := 681) (by decide +kernel), List.mem_of_getElem? (i := 682) (by decide +kernel)⟩
theorem lw_p9 : lw_okq (⟨"TradedDesigns$Parting", "startTallies", "(I)V"⟩, 8) := ⟨⟨by decide +kernel, by decide +kernel⟩, List.mem_of_getElem? (i := 199) (by decide +kernel), List.mem_of_getElem? (i := 707) (by decide +kernel), List.mem_of_getElem? (i := 708) (by decide +kernel)⟩
theorem lw_p10 : lw_okq (⟨"TradedDesigns$Parting", "addWay", "()V"⟩, 8) := ⟨⟨by decide +kernel, by decide +kernel⟩, List.mem_of_getElem? (i := 199) (by decide +kernel), List.mem_of_getElem? (i := 721) (by decide +kernel), List.mem_of_getElem? (i := 722) (by decide +kernel)⟩
theorem lw_p11 : lw_okq (⟨"TradedDesigns", "happen", "(II)V"⟩, 9) := ⟨⟨by decide +kernel, by decide +kernel⟩, List.mem_of_getElem? (i := 21) (by decide +kernel), List.mem_of_getElem? (i := 788) (by decide +kernel), List.mem_of_getElem? (i := 789) (by decide +kernel)⟩
theorem lw_p12 : lw_okq (⟨"TradedDesignsModel", "lists", "()V"⟩, 42) := ⟨⟨by decide +kernel, by decide +kernel⟩, List.mem_of_getElem? (i := 874) (by decide +kernel), List.mem_of_getElem? (i := 880) (by decide +kernel), List.mem_of_getElem? (i := 881) (by decide +kernel)⟩
theorem lw_p13 : lw_okq (⟨"TradedDesignsModel", "shape", "()I"⟩, 42) := ⟨⟨by decide +kernel, by decide +kernel⟩, List.mem_of_getElem? (i := 874) (by decide +kernel), List.mem_of_getElem? (i := 1029) (by decide +kernel), List.mem_of_getElem? (i := 1030) (by decide +kernel)⟩
theorem lw_p14 : lw_okq (⟨"TradedDesignsModel", "becomes", "(III)V"⟩, 42) := ⟨⟨by decide +kernel, by decide +kernel⟩, List.mem_of_getElem? (i := 874) (by decide +kernel), List.mem_of_getElem? (i := 1033) (by decide +kernel), List.mem_of_getElem? (i := 1034) (by decide +kernel)⟩
theorem lw_p15 : lw_okq (⟨"TradedDesignsModel", "isBlock", "(I)Z"⟩, 42) := ⟨⟨by decide +kernel, by decide +kernel⟩, List.mem_of_getElem? (i := 874) (by decide +kernel), List.mem_of_getElem? (i := 1041) (by decide +kernel), List.mem_of_getElem? (i := 1042) (by decide +kernel)⟩
def lw_privs_1 : List (MethodName × Nat) := [(⟨"TradedDesigns$SetUp", "passSign", "(I)Z"⟩, 6), (⟨"TradedDesigns$SetUp", "parseClause", "(I)Z"⟩, 6), (⟨"TradedDesigns$SetUp", "parseWord", "()I"⟩, 6), (⟨"TradedDesigns$SetUp", "signsAlike", "(Ljava/lang/String;)I"⟩, 6), (⟨"TradedDesigns$SetUp", "parseNumber", "(I)Z"⟩, 6), (⟨"TradedDesigns", "doClause", "(IIII)I"⟩, 9), (⟨"TradedDesigns$Standing", "signOfTerm", "(II)I"⟩, 4), (⟨"TradedDesigns$OpenTwists", "judgeTwist", "(LTradedDesigns$Standing;I)V"⟩, 4), (⟨"TradedDesigns$OpenTwists", "leastPoint", "(I)I"⟩, 4), (⟨"TradedDesigns$Parting", "startTallies", "(I)V"⟩, 8), (⟨"TradedDesigns$Parting", "addWay", "()V"⟩, 8), (⟨"TradedDesigns", "happen", "(II)V"⟩, 9), (⟨"TradedDesignsModel", "lists", "()V"⟩, 42), (⟨"TradedDesignsModel", "shape", "()I"⟩, 42), (⟨"TradedDesignsModel", "becomes", "(III)V"⟩, 42), (⟨"TradedDesignsModel", "isBlock", "(I)Z"⟩, 42)]
theorem lw_r1 : ∀ q ∈ lw_privs_1, lw_okq q := List.forall_mem_cons.mpr ⟨lw_p0, List.forall_mem_cons.mpr ⟨lw_p1, List.forall_mem_cons.mpr ⟨lw_p2, List.forall_mem_cons.mpr ⟨lw_p3, List.forall_mem_cons.mpr ⟨lw_p4, List.forall_mem_cons.mpr ⟨lw_p5, List.forall_mem_cons.mpr ⟨lw_p6, List.forall_mem_cons.mpr ⟨lw_p7, List.forall_mem_cons.mpr ⟨lw_p8, List.forall_mem_cons.mpr ⟨lw_p9, List.forall_mem_cons.mpr ⟨lw_p10, List.forall_mem_cons.mpr ⟨lw_p11, List.forall_mem_cons.mpr ⟨lw_p12, List.forall_mem_cons.mpr ⟨lw_p13, List.forall_mem_cons.mpr ⟨lw_p14, List.forall_mem_cons.mpr ⟨lw_p15, fun _ h => absurd h List.not_mem_nil⟩⟩⟩⟩⟩⟩⟩⟩⟩⟩⟩⟩⟩⟩⟩⟩
theorem lw_p16 : lw_okq (⟨"TradedDesignsModel", "twists", "(I)Z"⟩, 42) := ⟨⟨by decide +kernel, by decide +kernel⟩, List.mem_of_getElem? (i := 874) (by decide +kernel), List.mem_of_getElem? (i := 1051) (by decide +kernel), List.mem_of_getElem? (i := 1052) (by decide +kernel)⟩
theorem lw_p17 : lw_okq (⟨"TradedDesignsModel", "isPoint", "(I)Z"⟩, 42) := ⟨⟨by decide +kernel, by decide +kernel⟩, List.mem_of_getElem? (i := 874) (by decide +kernel), List.mem_of_getElem? (i := 1055) (by decide +kernel), List.mem_of_getElem? (i := 1056) (by decide +kernel)⟩
theorem lw_p18 : lw_okq (⟨"TradedDesignsModel", "adds", "(I)Z"⟩, 42) := ⟨⟨by decide +kernel, by decide +kernel⟩, List.mem_of_getElem? (i := 874) (by decide +kernel), List.mem_of_getElem? (i := 1061) (by decide +kernel), List.mem_of_getElem? (i := 1062) (by decide +kernel)⟩
theorem lw_p19 : lw_okq (⟨"TradedDesignsModel", "volume", "()I"⟩, 42) := ⟨⟨by decide +kernel, by decide +kernel⟩, List.mem_of_getElem? (i := 874) (by decide +kernel), List.mem_of_getElem? (i := 1065) (by decide +kernel), List.mem_of_getElem? (i := 1066) (by decide +kernel)⟩
theorem lw_p20 : lw_okq (⟨"TradedDesignsModel", "maySwap", "()Z"⟩, 42) := ⟨⟨by decide +kernel, by decide +kernel⟩, List.mem_of_getElem? (i := 874) (by decide +kernel), List.mem_of_getElem? (i := 1086) (by decide +kernel), List.mem_of_getElem? (i := 1087) (by decide +kernel)⟩
theorem lw_p21 : lw_okq (⟨"TradedDesignsModel", "isPlain", "()Z"⟩, 42) := ⟨⟨by decide +kernel, by decide +kernel⟩, List.mem_of_getElem? (i := 874) (by decide +kernel), List.mem_of_getElem? (i := 1090) (by decide +kernel), List.mem_of_getElem? (i := 1091) (by decide +kernel)⟩
theorem lw_p22 : lw_okq (⟨"TradedDesignsModel", "isTrade", "()Z"⟩, 42) := ⟨⟨by decide +kernel, by decide +kernel⟩, List.mem_of_getElem? (i := 874) (by decide +kernel), List.mem_of_getElem? (i := 1095) (by decide +kernel), List.mem_of_getElem? (i := 1096) (by decide +kernel)⟩
theorem lw_p23 : lw_okq (⟨"TradedDesignsModel", "sumOf", "(I)I"⟩, 42) := ⟨⟨by decide +kernel, by decide +kernel⟩, List.mem_of_getElem? (i := 874) (by decide +kernel), List.mem_of_getElem? (i := 1099) (by decide +kernel), List.mem_of_getElem? (i := 1100) (by decide +kernel)⟩
theorem lw_p24 : lw_okq (⟨"TradedDesignsModel", "swaps", "()V"⟩, 42) := ⟨⟨by decide +kernel, by decide +kernel⟩, List.mem_of_getElem? (i := 874) (by decide +kernel), List.mem_of_getElem? (i := 1103) (by decide +kernel), List.mem_of_getElem? (i := 1104) (by decide +kernel)⟩
theorem lw_p25 : lw_okq (⟨"TradedDesignsModel", "inDesign", "()I"⟩, 42) := ⟨⟨by decide +kernel, by decide +kernel⟩, List.mem_of_getElem? (i := 874) (by decide +kernel), List.mem_of_getElem? (i := 1107) (by decide +kernel), List.mem_of_getElem? (i := 1108) (by decide +kernel)⟩
theorem lw_p26 : lw_okq (⟨"TradedDesignsModel", "exchanges", "([III)V"⟩, 42) := ⟨⟨by decide +kernel, by decide +kernel⟩, List.mem_of_getElem? (i := 874) (by decide +kernel), List.mem_of_getElem? (i := 1123) (by decide +kernel), List.mem_of_getElem? (i := 1124) (by decide +kernel)⟩
theorem lw_p27 : lw_okq (⟨"TradedDesignsModel", "reads", "()Z"⟩, 42) := ⟨⟨by decide +kernel, by decide +kernel⟩, List.mem_of_getElem? (i := 874) (by decide +kernel), List.mem_of_getElem? (i := 1136) (by decide +kernel), List.mem_of_getElem? (i := 1137) (by decide +kernel)⟩
theorem lw_p28 : lw_okq (⟨"TradedDesignsModel", "what", "()I"⟩, 42) := ⟨⟨by decide +kernel, by decide +kernel⟩, List.mem_of_getElem? (i := 874) (by decide +kernel), List.mem_of_getElem? (i := 1140) (by decide +kernel), List.mem_of_getElem? (i := 1141) (by decide +kernel)⟩
theorem lw_p29 : lw_okq (⟨"TradedDesignsModel", "sign", "()I"⟩, 42) := ⟨⟨by decide +kernel, by decide +kernel⟩, List.mem_of_getElem? (i := 874) (by decide +kernel), List.mem_of_getElem? (i := 1144) (by decide +kernel), List.mem_of_getElem? (i := 1145) (by decide +kernel)⟩
theorem lw_p30 : lw_okq (⟨"TradedDesignsModel", "word", "(Ljava/lang/String;)Z"⟩, 42) := ⟨⟨by decide +kernel, by decide +kernel⟩, List.mem_of_getElem? (i := 874) (by decide +kernel), List.mem_of_getElem? (i := 1149) (by decide +kernel), List.mem_of_getElem? (i := 1150) (by decide +kernel)⟩
theorem lw_p31 : lw_okq (⟨"TradedDesignsModel", "numeral", "(I)Z"⟩, 42) := ⟨⟨by decide +kernel, by decide +kernel⟩, List.mem_of_getElem? (i := 874) (by decide +kernel), List.mem_of_getElem? (i := 1165) (by decide +kernel), List.mem_of_getElem? (i := 1166) (by decide +kernel)⟩
def lw_privs_2 : List (MethodName × Nat) := [(⟨"TradedDesignsModel", "twists", "(I)Z"⟩, 42), (⟨"TradedDesignsModel", "isPoint", "(I)Z"⟩, 42), (⟨"TradedDesignsModel", "adds", "(I)Z"⟩, 42), (⟨"TradedDesignsModel", "volume", "()I"⟩, 42), (⟨"TradedDesignsModel", "maySwap", "()Z"⟩, 42), (⟨"TradedDesignsModel", "isPlain", "()Z"⟩, 42), (⟨"TradedDesignsModel", "isTrade", "()Z"⟩, 42), (⟨"TradedDesignsModel", "sumOf", "(I)I"⟩, 42), (⟨"TradedDesignsModel", "swaps", "()V"⟩, 42), (⟨"TradedDesignsModel", "inDesign", "()I"⟩, 42), (⟨"TradedDesignsModel", "exchanges", "([III)V"⟩, 42), (⟨"TradedDesignsModel", "reads", "()Z"⟩, 42), (⟨"TradedDesignsModel", "what", "()I"⟩, 42), (⟨"TradedDesignsModel", "sign", "()I"⟩, 42), (⟨"TradedDesignsModel", "word", "(Ljava/lang/String;)Z"⟩, 42), (⟨"TradedDesignsModel", "numeral", "(I)Z"⟩, 42)]
theorem lw_r2 : ∀ q ∈ lw_privs_2, lw_okq q := List.forall_mem_cons.mpr ⟨lw_p16, List.forall_mem_cons.mpr ⟨lw_p17, List.forall_mem_cons.mpr ⟨lw_p18, List.forall_mem_cons.mpr ⟨lw_p19, List.forall_mem_cons.mpr ⟨lw_p20, List.forall_mem_cons.mpr ⟨lw_p21, List.forall_mem_cons.mpr ⟨lw_p22, List.forall_mem_cons.mpr ⟨lw_p23, List.forall_mem_cons.mpr ⟨lw_p24, List.forall_mem_cons.mpr ⟨lw_p25, List.forall_mem_cons.mpr ⟨lw_p26, List.forall_mem_cons.mpr ⟨lw_p27, List.forall_mem_cons.mpr ⟨lw_p28, List.forall_mem_cons.mpr ⟨lw_p29, List.forall_mem_cons.mpr ⟨lw_p30, List.forall_mem_cons.mpr ⟨lw_p31, fun _ h => absurd h List.not_mem_nil⟩⟩⟩⟩⟩⟩⟩⟩⟩⟩⟩⟩⟩⟩⟩⟩
theorem lw_p32 : lw_okq (⟨"TradedDesignsModel", "does", "(I)Z"⟩, 42) := ⟨⟨by decide +kernel, by decide +kernel⟩, List.mem_of_getElem? (i := 874) (by decide +kernel), List.mem_of_getElem? (i := 1171) (by decide +kernel), List.mem_of_getElem? (i := 1172) (by decide +kernel)⟩
theorem lw_p33 : lw_okq (⟨"TradedDesignsModel", "foundation", "()I"⟩, 42) := ⟨⟨by decide +kernel, by decide +kernel⟩, List.mem_of_getElem? (i := 874) (by decide +kernel), List.mem_of_getElem? (i := 1186) (by decide +kernel), List.mem_of_getElem? (i := 1187) (by decide +kernel)⟩
theorem lw_p34 : lw_okq (⟨"TradedDesignsModel", "index", "()I"⟩, 42) := ⟨⟨by decide +kernel, by decide +kernel⟩, List.mem_of_getElem? (i := 874) (by decide +kernel), List.mem_of_getElem? (i := 1190) (by decide +kernel), List.mem_of_getElem? (i := 1191) (by decide +kernel)⟩
theorem lw_p35 : lw_okq (⟨"TradedDesignsModel", "coverOf", "(I)I"⟩, 42) := ⟨⟨by decide +kernel, by decide +kernel⟩, List.mem_of_getElem? (i := 874) (by decide +kernel), List.mem_of_getElem? (i := 1194) (by decide +kernel), List.mem_of_getElem? (i := 1195) (by decide +kernel)⟩
theorem lw_p36 : lw_okq (⟨"TradedDesignsModel", "isSet", "(II)Z"⟩, 42) := ⟨⟨by decide +kernel, by decide +kernel⟩, List.mem_of_getElem? (i := 874) (by decide +kernel), List.mem_of_getElem? (i := 1214) (by decide +kernel), List.mem_of_getElem? (i := 1215) (by decide +kernel)⟩
theorem lw_p37 : lw_okq (⟨"TradedDesignsModel", "writes", "()V"⟩, 42) := ⟨⟨by decide +kernel, by decide +kernel⟩, List.mem_of_getElem? (i := 874) (by decide +kernel), List.mem_of_getElem? (i := 1230) (by decide +kernel), List.mem_of_getElem? (i := 1231) (by decide +kernel)⟩
theorem lw_p38 : lw_okq (⟨"TradedDesignsModel", "write", "(I)V"⟩, 42) := ⟨⟨by decide +kernel, by decide +kernel⟩, List.mem_of_getElem? (i := 874) (by decide +kernel), List.mem_of_getElem? (i := 1234) (by decide +kernel), List.mem_of_getElem? (i := 1235) (by decide +kernel)⟩
theorem lw_p39 : lw_okq (⟨"TradedDesignsModel", "opens", "(III)V"⟩, 42) := ⟨⟨by decide +kernel, by decide +kernel⟩, List.mem_of_getElem? (i := 874) (by decide +kernel), List.mem_of_getElem? (i := 1243) (by decide +kernel), List.mem_of_getElem? (i := 1244) (by decide +kernel)⟩
theorem lw_p40 : lw_okq (⟨"TradedDesignsModel", "isOpen", "(I)Z"⟩, 42) := ⟨⟨by decide +kernel, by decide +kernel⟩, List.mem_of_getElem? (i := 874) (by decide +kernel), List.mem_of_getElem? (i := 1247) (by decide +kernel), List.mem_of_getElem? (i := 1248) (by decide +kernel)⟩
theorem lw_p41 : lw_okq (⟨"TradedDesignsModel", "isLookedFor", "()Z"⟩, 42) := ⟨⟨by decide +kernel, by decide +kernel⟩, List.mem_of_getElem? (i := 874) (by decide +kernel), List.mem_of_getElem? (i := 1256) (by decide +kernel), List.mem_of_getElem? (i := 1257) (by decide +kernel)⟩
theorem lw_p42 : lw_okq (⟨"TradedDesignsModel", "parts", "(I)V"⟩, 42) := ⟨⟨by decide +kernel, by decide +kernel⟩, List.mem_of_getElem? (i := 874) (by decide +kernel), List.mem_of_getElem? (i := 1260) (by decide +kernel), List.mem_of_getElem? (i := 1261) (by decide +kernel)⟩
theorem lw_p43 : lw_okq (⟨"TradedDesignsModel", "deals", "(IIII)V"⟩, 42) := ⟨⟨by decide +kernel, by decide +kernel⟩, List.mem_of_getElem? (i := 874) (by decide +kernel), List.mem_of_getElem? (i := 1264) (by decide +kernel), List.mem_of_getElem? (i := 1265) (by decide +kernel)⟩
theorem lw_p44 : lw_okq (⟨"TradedDesignsModel", "takes", "(III)Z"⟩, 42) := ⟨⟨by decide +kernel, by decide +kernel⟩, List.mem_of_getElem? (i := 874) (by decide +kernel), List.mem_of_getElem? (i := 1268) (by decide +kernel), List.mem_of_getElem? (i := 1269) (by decide +kernel)⟩
theorem lw_p45 : lw_okq (⟨"TradedDesignsModel", "isSeen", "()Z"⟩, 42) := ⟨⟨by decide +kernel, by decide +kernel⟩, List.mem_of_getElem? (i := 874) (by decide +kernel), List.mem_of_getElem? (i := 1286) (by decide +kernel), List.mem_of_getElem? (i := 1287) (by decide +kernel)⟩
theorem lw_p46 : lw_okq (⟨"TradedDesignsModel", "keepTo", "([I)V"⟩, 42) := ⟨⟨by decide +kernel, by decide +kernel⟩, List.mem_of_getElem? (i := 874) (by decide +kernel), List.mem_of_getElem? (i := 1310) (by decide +kernel), List.mem_of_getElem? (i := 1311) (by decide +kernel)⟩
theorem lw_p47 : lw_okq (⟨"TradedDesignsModel", "happens", "(II)V"⟩, 42) := ⟨⟨by decide +kernel, by decide +kernel⟩, List.mem_of_getElem? (i := 874) (by decide +kernel), List.mem_of_getElem? (i := 1314) (by decide +kernel), List.mem_of_getElem? (i := 1315) (by decide +kernel)⟩
def lw_privs_3 : List (MethodName × Nat) := [(⟨"TradedDesignsModel", "does", "(I)Z"⟩, 42), (⟨"TradedDesignsModel", "foundation", "()I"⟩, 42), (⟨"TradedDesignsModel", "index", "()I"⟩, 42), (⟨"TradedDesignsModel", "coverOf", "(I)I"⟩, 42), (⟨"TradedDesignsModel", "isSet", "(II)Z"⟩, 42), (⟨"TradedDesignsModel", "writes", "()V"⟩, 42), (⟨"TradedDesignsModel", "write", "(I)V"⟩, 42), (⟨"TradedDesignsModel", "opens", "(III)V"⟩, 42), (⟨"TradedDesignsModel", "isOpen", "(I)Z"⟩, 42), (⟨"TradedDesignsModel", "isLookedFor", "()Z"⟩, 42), (⟨"TradedDesignsModel", "parts", "(I)V"⟩, 42), (⟨"TradedDesignsModel", "deals", "(IIII)V"⟩, 42), (⟨"TradedDesignsModel", "takes", "(III)Z"⟩, 42), (⟨"TradedDesignsModel", "isSeen", "()Z"⟩, 42), (⟨"TradedDesignsModel", "keepTo", "([I)V"⟩, 42), (⟨"TradedDesignsModel", "happens", "(II)V"⟩, 42)]
theorem lw_r3 : ∀ q ∈ lw_privs_3, lw_okq q := List.forall_mem_cons.mpr ⟨lw_p32, List.forall_mem_cons.mpr ⟨lw_p33, List.forall_mem_cons.mpr ⟨lw_p34, List.forall_mem_cons.mpr ⟨lw_p35, List.forall_mem_cons.mpr ⟨lw_p36, List.forall_mem_cons.mpr ⟨lw_p37, List.forall_mem_cons.mpr ⟨lw_p38, List.forall_mem_cons.mpr ⟨lw_p39, List.forall_mem_cons.mpr ⟨lw_p40, List.forall_mem_cons.mpr ⟨lw_p41, List.forall_mem_cons.mpr ⟨lw_p42, List.forall_mem_cons.mpr ⟨lw_p43, List.forall_mem_cons.mpr ⟨lw_p44, List.forall_mem_cons.mpr ⟨lw_p45, List.forall_mem_cons.mpr ⟨lw_p46, List.forall_mem_cons.mpr ⟨lw_p47, fun _ h => absurd h List.not_mem_nil⟩⟩⟩⟩⟩⟩⟩⟩⟩⟩⟩⟩⟩⟩⟩⟩
theorem lw_p48 : lw_okq (⟨"TradedDesignsModel", "again", "([I)V"⟩, 42) := ⟨⟨by decide +kernel, by decide +kernel⟩, List.mem_of_getElem? (i := 874) (by decide +kernel), List.mem_of_getElem? (i := 1318) (by decide +kernel), List.mem_of_getElem? (i := 1319) (by decide +kernel)⟩
theorem lw_p49 : lw_okq (⟨"TradedDesignsModel", "hasItem", "(II)Z"⟩, 42) := ⟨⟨by decide +kernel, by decide +kernel⟩, List.mem_of_getElem? (i := 874) (by decide +kernel), List.mem_of_getElem? (i := 1358) (by decide +kernel), List.mem_of_getElem? (i := 1359) (by decide +kernel)⟩
def lw_privs_4 : List (MethodName × Nat) := [(⟨"TradedDesignsModel", "again", "([I)V"⟩, 42), (⟨"TradedDesignsModel", "hasItem", "(II)Z"⟩, 42)]
theorem lw_r4 : ∀ q ∈ lw_privs_4, lw_okq q := List.forall_mem_cons.mpr ⟨lw_p48, List.forall_mem_cons.mpr ⟨lw_p49, fun _ h => absurd h List.not_mem_nil⟩⟩
def lw_privs : List (MethodName × Nat) := lw_privs_1 ++ (lw_privs_2 ++ (lw_privs_3 ++ (lw_privs_4)))
def lw_tbl : List Cond := k2_sels lw_privs ++ tables_1
theorem lw_privs_ok : ∀ q ∈ lw_privs, lw_okq q := by
  show ∀ q ∈ lw_privs_1 ++ (lw_privs_2 ++ (lw_privs_3 ++ (lw_privs_4))), lw_okq q
  exact List.forall_mem_append.mpr ⟨lw_r1, List.forall_mem_append.mpr ⟨lw_r2, List.forall_mem_append.mpr ⟨lw_r3, lw_r4⟩⟩⟩
-- names, by the program of NAMES
def RX0 : String := "TradedDesigns$Blocks"
def TX0 : u_T := fun k => match k with
  | 0 => ("TradedDesigns$Blocks", "v", "I", false)
  | 1 => ("TradedDesigns$Blocks", "k", "I", false)
  | 2 => ("TradedDesigns$Blocks", "t", "I", false)
  | 3 => ("TradedDesigns$Blocks", "many", "I", false)
  | 4 => ("TradedDesigns$Blocks", "bits", "[I", true)
  | _ => ("TradedDesigns$Blocks", "numbers", "[I", true)
def tyX0 : Nat → FieldType := fun k => match k with
  | 0 => .int
  | 1 => .int
  | 2 => .int
  | 3 => .int
  | 4 => .array .int
  | _ => .array .int
abbrev wsX00 : List Cond := u_ws RX0 TX0 6
theorem nmX0 : ∀ a, a < 6 → ∀ b, b < 6 → a ≠ b → (TX0 a).2.1 ≠ (TX0 b).2.1 := by decide +kernel
theorem tyX0_ok : ∀ k, k < 6 → parseFieldDescriptor (TX0 k).2.2.1 = some (tyX0 k) := by decide +kernel
abbrev cX0_init : ByteArray := prog_2_method_1_code
def yX0_init : MethodName := ⟨RX0, "<init>", "()V"⟩
abbrev cX0_become : ByteArray := prog_2_method_2_code
def yX0_become : MethodName := ⟨RX0, "become", "(III)V"⟩
abbrev cX0_copyFrom : ByteArray := prog_2_method_3_code
def yX0_copyFrom : MethodName := ⟨RX0, "copyFrom", "(LTradedDesigns$Blocks;)V"⟩
abbrev cX0_sizes : ByteArray := prog_2_method_4_code
def yX0_sizes : MethodName := ⟨RX0, "sizes", "()I"⟩
abbrev cX0_has : ByteArray := prog_2_method_5_code
def yX0_has : MethodName := ⟨RX0, "has", "(I)Z"⟩
abbrev cX0_hasPoint : ByteArray := prog_2_method_6_code
def yX0_hasPoint : MethodName := ⟨RX0, "hasPoint", "(I)Z"⟩
abbrev cX0_isSet : ByteArray := prog_2_method_7_code
def yX0_isSet : MethodName := ⟨RX0, "isSet", "(II)Z"⟩
abbrev cX0_numberOf : ByteArray := prog_2_method_8_code
def yX0_numberOf : MethodName := ⟨RX0, "numberOf", "(I)I"⟩
abbrev cX0_holds : ByteArray := prog_2_method_9_code
def yX0_holds : MethodName := ⟨RX0, "holds", "(II)Z"⟩
abbrev cX0_holding : ByteArray := prog_2_method_10_code
def yX0_holding : MethodName := ⟨RX0, "holding", "(I)I"⟩
def RX1 : String := "TradedDesigns$OpenTwists"
def TX1 : u_T := fun k => match k with
  | 0 => ("TradedDesigns$OpenTwists", "twist", "LTradedDesigns$Twist;", true)
  | 1 => ("TradedDesigns$OpenTwists", "found", "I", false)
  | 2 => ("TradedDesigns$OpenTwists", "firstNumber", "I", false)
  | _ => ("TradedDesigns$OpenTwists", "firstTimes", "I", false)
def tyX1 : Nat → FieldType := fun k => match k with
  | 0 => .object "TradedDesigns$Twist"
  | 1 => .int
  | 2 => .int
  | _ => .int
abbrev wsX10 : List Cond := u_ws RX1 TX1 4
theorem nmX1 : ∀ a, a < 4 → ∀ b, b < 4 → a ≠ b → (TX1 a).2.1 ≠ (TX1 b).2.1 := by decide +kernel
theorem tyX1_ok : ∀ k, k < 4 → parseFieldDescriptor (TX1 k).2.2.1 = some (tyX1 k) := by decide +kernel
abbrev cX1_init : ByteArray := prog_3_method_1_code
def yX1_init : MethodName := ⟨RX1, "<init>", "()V"⟩
abbrev cX1_look : ByteArray := prog_3_method_2_code
def yX1_look : MethodName := ⟨RX1, "look", "(LTradedDesigns$Standing;)V"⟩
abbrev cX1_choosePoints : ByteArray := prog_3_method_3_code
def yX1_choosePoints : MethodName := ⟨RX1, "choosePoints", "(LTradedDesigns$OpenTwists;LTradedDesigns$Standing;III)V"⟩
abbrev cX1_leastPoint : ByteArray := prog_3_method_4_code
def yX1_leastPoint : MethodName := ⟨RX1, "leastPoint", "(I)I"⟩
abbrev cX1_judgeTwist : ByteArray := prog_3_method_5_code
def yX1_judgeTwist : MethodName := ⟨RX1, "judgeTwist", "(LTradedDesigns$Standing;I)V"⟩
def RX2 : String := "TradedDesigns$Parting"
def TX2 : u_T := fun k => match k with
  | 0 => ("TradedDesigns$Parting", "ways", "I", false)
  | 1 => ("TradedDesigns$Parting", "lookedFor", "I", false)
  | 2 => ("TradedDesigns$Parting", "parts", "I", false)
  | 3 => ("TradedDesigns$Parting", "many", "I", false)
  | 4 => ("TradedDesigns$Parting", "steps", "[J", true)
  | 5 => ("TradedDesigns$Parting", "tallies", "[J", true)
  | 6 => ("TradedDesigns$Parting", "way", "[I", true)
  | _ => ("TradedDesigns$Parting", "firstWay", "[I", true)
def tyX2 : Nat → FieldType := fun k => match k with
  | 0 => .int
  | 1 => .int
  | 2 => .int
  | 3 => .int
  | 4 => .array .long
  | 5 => .array .long
  | 6 => .array .int
  | _ => .array .int
abbrev wsX20 : List Cond := u_ws RX2 TX2 8
theorem nmX2 : ∀ a, a < 8 → ∀ b, b < 8 → a ≠ b → (TX2 a).2.1 ≠ (TX2 b).2.1 := by decide +kernel
theorem tyX2_ok : ∀ k, k < 8 → parseFieldDescriptor (TX2 k).2.2.1 = some (tyX2 k) := by decide +kernel
abbrev cX2_init : ByteArray := prog_4_method_1_code
def yX2_init : MethodName := ⟨RX2, "<init>", "()V"⟩
abbrev cX2_isParts : ByteArray := prog_4_method_2_code
def yX2_isParts : MethodName := ⟨RX2, "isParts", "(I)Z"⟩
abbrev cX2_isLookedFor : ByteArray := prog_4_method_3_code
def yX2_isLookedFor : MethodName := ⟨RX2, "isLookedFor", "(LTradedDesigns$Blocks;)Z"⟩
abbrev cX2_firstOf : ByteArray := prog_4_method_4_code
def yX2_firstOf : MethodName := ⟨RX2, "firstOf", "(I)I"⟩
abbrev cX2_look : ByteArray := prog_4_method_5_code
def yX2_look : MethodName := ⟨RX2, "look", "(LTradedDesigns$Blocks;I)V"⟩
abbrev cX2_startTallies : ByteArray := prog_4_method_6_code
def yX2_startTallies : MethodName := ⟨RX2, "startTallies", "(I)V"⟩
abbrev cX2_stepOf : ByteArray := prog_4_method_7_code
def yX2_stepOf : MethodName := ⟨RX2, "stepOf", "(LTradedDesigns$Blocks;I)J"⟩
abbrev cX2_stepOfPairs : ByteArray := prog_4_method_8_code
def yX2_stepOfPairs : MethodName := ⟨RX2, "stepOfPairs", "(LTradedDesigns$Blocks;II)J"⟩
abbrev cX2_placeBlock : ByteArray := prog_4_method_9_code
def yX2_placeBlock : MethodName := ⟨RX2, "placeBlock", "(LTradedDesigns$Parting;II)V"⟩
abbrev cX2_addWay : ByteArray := prog_4_method_10_code
def yX2_addWay : MethodName := ⟨RX2, "addWay", "()V"⟩
def RX3 : String := "TradedDesigns$Rows"
def TX3 : u_T := fun k => match k with
  | 0 => ("TradedDesigns$Rows", "firsts", "[I", true)
  | 1 => ("TradedDesigns$Rows", "seconds", "[I", true)
  | _ => ("TradedDesigns$Rows", "many", "I", false)
def tyX3 : Nat → FieldType := fun k => match k with
  | 0 => .array .int
  | 1 => .array .int
  | _ => .int
abbrev wsX30 : List Cond := u_ws RX3 TX3 3
theorem nmX3 : ∀ a, a < 3 → ∀ b, b < 3 → a ≠ b → (TX3 a).2.1 ≠ (TX3 b).2.1 := by decide +kernel
theorem tyX3_ok : ∀ k, k < 3 → parseFieldDescriptor (TX3 k).2.2.1 = some (tyX3 k) := by decide +kernel
abbrev cX3_init : ByteArray := prog_5_method_1_code
def yX3_init : MethodName := ⟨RX3, "<init>", "(I)V"⟩
abbrev cX3_becomeEmpty : ByteArray := prog_5_method_2_code
def yX3_becomeEmpty : MethodName := ⟨RX3, "becomeEmpty", "()I"⟩
abbrev cX3_addRow : ByteArray := prog_5_method_3_code
def yX3_addRow : MethodName := ⟨RX3, "addRow", "(II)I"⟩
abbrev cX3_copyFrom : ByteArray := prog_5_method_4_code
def yX3_copyFrom : MethodName := ⟨RX3, "copyFrom", "(LTradedDesigns$Rows;)V"⟩
def RX4 : String := "TradedDesigns$SetUp"
def TX4 : u_T := fun k => match k with
  | 0 => ("TradedDesigns$SetUp", "text", "[I", true)
  | 1 => ("TradedDesigns$SetUp", "length", "I", false)
  | 2 => ("TradedDesigns$SetUp", "words", "[I", true)
  | 3 => ("TradedDesigns$SetUp", "numbers", "[I", true)
  | 4 => ("TradedDesigns$SetUp", "clauses", "I", false)
  | _ => ("TradedDesigns$SetUp", "at", "I", false)
def tyX4 : Nat → FieldType := fun k => match k with
  | 0 => .array .int
  | 1 => .int
  | 2 => .array .int
  | 3 => .array .int
  | 4 => .int
  | _ => .int
abbrev wsX40 : List Cond := u_ws RX4 TX4 6
theorem nmX4 : ∀ a, a < 6 → ∀ b, b < 6 → a ≠ b → (TX4 a).2.1 ≠ (TX4 b).2.1 := by decide +kernel
theorem tyX4_ok : ∀ k, k < 6 → parseFieldDescriptor (TX4 k).2.2.1 = some (tyX4 k) := by decide +kernel
abbrev cX4_init : ByteArray := prog_6_method_1_code
def yX4_init : MethodName := ⟨RX4, "<init>", "()V"⟩
abbrev cX4_addSign : ByteArray := prog_6_method_2_code
def yX4_addSign : MethodName := ⟨RX4, "addSign", "(I)Z"⟩
abbrev cX4_numberOf : ByteArray := prog_6_method_3_code
def yX4_numberOf : MethodName := ⟨RX4, "numberOf", "(II)I"⟩
abbrev cX4_parse : ByteArray := prog_6_method_4_code
def yX4_parse : MethodName := ⟨RX4, "parse", "()I"⟩
abbrev cX4_parseClause : ByteArray := prog_6_method_5_code
def yX4_parseClause : MethodName := ⟨RX4, "parseClause", "(I)Z"⟩
abbrev cX4_parseWord : ByteArray := prog_6_method_6_code
def yX4_parseWord : MethodName := ⟨RX4, "parseWord", "()I"⟩
abbrev cX4_signsAlike : ByteArray := prog_6_method_7_code
def yX4_signsAlike : MethodName := ⟨RX4, "signsAlike", "(Ljava/lang/String;)I"⟩
abbrev cX4_parseNumber : ByteArray := prog_6_method_8_code
def yX4_parseNumber : MethodName := ⟨RX4, "parseNumber", "(I)Z"⟩
abbrev cX4_passSign : ByteArray := prog_6_method_9_code
def yX4_passSign : MethodName := ⟨RX4, "passSign", "(I)Z"⟩
abbrev cX4_nameOf : ByteArray := prog_6_method_10_code
def yX4_nameOf : MethodName := ⟨RX4, "nameOf", "(I)Ljava/lang/String;"⟩
abbrev cX4_numbersBehind : ByteArray := prog_6_method_11_code
def yX4_numbersBehind : MethodName := ⟨RX4, "numbersBehind", "(I)I"⟩
def RX5 : String := "TradedDesigns$Standing"
def TX5 : u_T := fun k => match k with
  | 0 => ("TradedDesigns$Standing", "blocks", "LTradedDesigns$Blocks;", true)
  | 1 => ("TradedDesigns$Standing", "counts", "[I", true)
  | 2 => ("TradedDesigns$Standing", "design", "J", false)
  | _ => ("TradedDesigns$Standing", "kept", "J", false)
def tyX5 : Nat → FieldType := fun k => match k with
  | 0 => .object "TradedDesigns$Blocks"
  | 1 => .array .int
  | 2 => .long
  | _ => .long
abbrev wsX50 : List Cond := u_ws RX5 TX5 4
theorem nmX5 : ∀ a, a < 4 → ∀ b, b < 4 → a ≠ b → (TX5 a).2.1 ≠ (TX5 b).2.1 := by decide +kernel
theorem tyX5_ok : ∀ k, k < 4 → parseFieldDescriptor (TX5 k).2.2.1 = some (tyX5 k) := by decide +kernel
abbrev cX5_init : ByteArray := prog_7_method_1_code
def yX5_init : MethodName := ⟨RX5, "<init>", "(LTradedDesigns$Blocks;)V"⟩
abbrev cX5_becomeEmpty : ByteArray := prog_7_method_2_code
def yX5_becomeEmpty : MethodName := ⟨RX5, "becomeEmpty", "()V"⟩
abbrev cX5_copyFrom : ByteArray := prog_7_method_3_code
def yX5_copyFrom : MethodName := ⟨RX5, "copyFrom", "(LTradedDesigns$Standing;)V"⟩
abbrev cX5_clearCounts : ByteArray := prog_7_method_4_code
def yX5_clearCounts : MethodName := ⟨RX5, "clearCounts", "()V"⟩
abbrev cX5_changeSigns : ByteArray := prog_7_method_5_code
def yX5_changeSigns : MethodName := ⟨RX5, "changeSigns", "()V"⟩
abbrev cX5_toggle : ByteArray := prog_7_method_6_code
def yX5_toggle : MethodName := ⟨RX5, "toggle", "(I)V"⟩
abbrev cX5_addTwist : ByteArray := prog_7_method_7_code
def yX5_addTwist : MethodName := ⟨RX5, "addTwist", "(LTradedDesigns$Twist;I)Z"⟩
abbrev cX5_takeDifference : ByteArray := prog_7_method_8_code
def yX5_takeDifference : MethodName := ⟨RX5, "takeDifference", "()V"⟩
abbrev cX5_exchangePoints : ByteArray := prog_7_method_9_code
def yX5_exchangePoints : MethodName := ⟨RX5, "exchangePoints", "(II)V"⟩
abbrev cX5_mayBeSwapped : ByteArray := prog_7_method_10_code
def yX5_mayBeSwapped : MethodName := ⟨RX5, "mayBeSwapped", "()Z"⟩
abbrev cX5_swapByRow : ByteArray := prog_7_method_11_code
def yX5_swapByRow : MethodName := ⟨RX5, "swapByRow", "()V"⟩
abbrev cX5_volume : ByteArray := prog_7_method_12_code
def yX5_volume : MethodName := ⟨RX5, "volume", "()I"⟩
abbrev cX5_countsNotZero : ByteArray := prog_7_method_13_code
def yX5_countsNotZero : MethodName := ⟨RX5, "countsNotZero", "()I"⟩
abbrev cX5_foundation : ByteArray := prog_7_method_14_code
def yX5_foundation : MethodName := ⟨RX5, "foundation", "()I"⟩
abbrev cX5_isPlain : ByteArray := prog_7_method_15_code
def yX5_isPlain : MethodName := ⟨RX5, "isPlain", "()Z"⟩
abbrev cX5_isTrade : ByteArray := prog_7_method_16_code
def yX5_isTrade : MethodName := ⟨RX5, "isTrade", "()Z"⟩
abbrev cX5_firstAmiss : ByteArray := prog_7_method_17_code
def yX5_firstAmiss : MethodName := ⟨RX5, "firstAmiss", "(II)I"⟩
abbrev cX5_sumOf : ByteArray := prog_7_method_18_code
def yX5_sumOf : MethodName := ⟨RX5, "sumOf", "(I)I"⟩
abbrev cX5_coverOf : ByteArray := prog_7_method_19_code
def yX5_coverOf : MethodName := ⟨RX5, "coverOf", "(I)I"⟩
abbrev cX5_index : ByteArray := prog_7_method_20_code
def yX5_index : MethodName := ⟨RX5, "index", "()I"⟩
abbrev cX5_signWritten : ByteArray := prog_7_method_21_code
def yX5_signWritten : MethodName := ⟨RX5, "signWritten", "(I)I"⟩
abbrev cX5_signOfTerm : ByteArray := prog_7_method_22_code
def yX5_signOfTerm : MethodName := ⟨RX5, "signOfTerm", "(II)I"⟩
abbrev cX5_factorLength : ByteArray := prog_7_method_23_code
def yX5_factorLength : MethodName := ⟨RX5, "factorLength", "(I)I"⟩
abbrev cX5_pointOf : ByteArray := prog_7_method_24_code
def yX5_pointOf : MethodName := ⟨RX5, "pointOf", "(II)I"⟩
def RX6 : String := "TradedDesigns$State"
def TX6 : u_T := fun k => match k with
  | 0 => ("TradedDesigns$State", "blocks", "LTradedDesigns$Blocks;", true)
  | 1 => ("TradedDesigns$State", "standing", "LTradedDesigns$Standing;", true)
  | 2 => ("TradedDesigns$State", "seen", "LTradedDesigns$Rows;", true)
  | 3 => ("TradedDesigns$State", "events", "LTradedDesigns$Rows;", true)
  | _ => ("TradedDesigns$State", "booked", "LTradedDesigns$Rows;", true)
def tyX6 : Nat → FieldType := fun k => match k with
  | 0 => .object "TradedDesigns$Blocks"
  | 1 => .object "TradedDesigns$Standing"
  | 2 => .object "TradedDesigns$Rows"
  | 3 => .object "TradedDesigns$Rows"
  | _ => .object "TradedDesigns$Rows"
abbrev wsX60 : List Cond := u_ws RX6 TX6 5
theorem nmX6 : ∀ a, a < 5 → ∀ b, b < 5 → a ≠ b → (TX6 a).2.1 ≠ (TX6 b).2.1 := by decide +kernel
theorem tyX6_ok : ∀ k, k < 5 → parseFieldDescriptor (TX6 k).2.2.1 = some (tyX6 k) := by decide +kernel
abbrev cX6_init : ByteArray := prog_8_method_1_code
def yX6_init : MethodName := ⟨RX6, "<init>", "()V"⟩
abbrev cX6_copyFrom : ByteArray := prog_8_method_2_code
def yX6_copyFrom : MethodName := ⟨RX6, "copyFrom", "(LTradedDesigns$State;)V"⟩
def RX7 : String := "TradedDesigns$Tape"
def TX7 : u_T := fun k => match k with
  | 0 => ("TradedDesigns$Tape", "sort", "I", false)
  | 1 => ("TradedDesigns$Tape", "length", "I", false)
  | _ => ("TradedDesigns$Tape", "items", "[J", true)
def tyX7 : Nat → FieldType := fun k => match k with
  | 0 => .int
  | 1 => .int
  | _ => .array .long
abbrev wsX70 : List Cond := u_ws RX7 TX7 3
theorem nmX7 : ∀ a, a < 3 → ∀ b, b < 3 → a ≠ b → (TX7 a).2.1 ≠ (TX7 b).2.1 := by decide +kernel
theorem tyX7_ok : ∀ k, k < 3 → parseFieldDescriptor (TX7 k).2.2.1 = some (tyX7 k) := by decide +kernel
abbrev cX7_init : ByteArray := prog_9_method_1_code
def yX7_init : MethodName := ⟨RX7, "<init>", "()V"⟩
abbrev cX7_become : ByteArray := prog_9_method_2_code
def yX7_become : MethodName := ⟨RX7, "become", "(II)V"⟩
abbrev cX7_isEmpty : ByteArray := prog_9_method_3_code
def yX7_isEmpty : MethodName := ⟨RX7, "isEmpty", "()Z"⟩
abbrev cX7_hasPlace : ByteArray := prog_9_method_4_code
def yX7_hasPlace : MethodName := ⟨RX7, "hasPlace", "(I)Z"⟩
abbrev cX7_hasPlaces : ByteArray := prog_9_method_5_code
def yX7_hasPlaces : MethodName := ⟨RX7, "hasPlaces", "(II)Z"⟩
abbrev cX7_asItem : ByteArray := prog_9_method_6_code
def yX7_asItem : MethodName := ⟨RX7, "asItem", "(J)J"⟩
def RX8 : String := "TradedDesigns$Twist"
def TX8 : u_T := fun k => match k with
  | 0 => ("TradedDesigns$Twist", "points", "[I", true)
  | 1 => ("TradedDesigns$Twist", "pairs", "I", false)
  | _ => ("TradedDesigns$Twist", "length", "I", false)
def tyX8 : Nat → FieldType := fun k => match k with
  | 0 => .array .int
  | 1 => .int
  | _ => .int
abbrev wsX80 : List Cond := u_ws RX8 TX8 3
theorem nmX8 : ∀ a, a < 3 → ∀ b, b < 3 → a ≠ b → (TX8 a).2.1 ≠ (TX8 b).2.1 := by decide +kernel
theorem tyX8_ok : ∀ k, k < 3 → parseFieldDescriptor (TX8 k).2.2.1 = some (tyX8 k) := by decide +kernel
abbrev cX8_init : ByteArray := prog_10_method_1_code
def yX8_init : MethodName := ⟨RX8, "<init>", "()V"⟩
abbrev cX8_becomeFor : ByteArray := prog_10_method_2_code
def yX8_becomeFor : MethodName := ⟨RX8, "becomeFor", "(LTradedDesigns$Blocks;)V"⟩
abbrev cX8_take : ByteArray := prog_10_method_3_code
def yX8_take : MethodName := ⟨RX8, "take", "(LTradedDesigns$Blocks;I)Z"⟩
abbrev cX8_choices : ByteArray := prog_10_method_4_code
def yX8_choices : MethodName := ⟨RX8, "choices", "()I"⟩
abbrev cX8_blockOf : ByteArray := prog_10_method_5_code
def yX8_blockOf : MethodName := ⟨RX8, "blockOf", "(LTradedDesigns$Blocks;I)I"⟩
abbrev cX8_signOf : ByteArray := prog_10_method_6_code
def yX8_signOf : MethodName := ⟨RX8, "signOf", "(I)I"⟩
def RX9 : String := "TradedDesigns"
def TX9 : u_T := fun k => match k with
  | 0 => ("TradedDesigns", "now", "LTradedDesigns$State;", true)
  | 1 => ("TradedDesigns", "image", "LTradedDesigns$State;", true)
  | 2 => ("TradedDesigns", "imageTaken", "Z", false)
  | 3 => ("TradedDesigns", "later", "LTradedDesigns$Standing;", true)
  | 4 => ("TradedDesigns", "twisting", "LTradedDesigns$Twist;", true)
  | 5 => ("TradedDesigns", "openTwists", "LTradedDesigns$OpenTwists;", true)
  | 6 => ("TradedDesigns", "parting", "LTradedDesigns$Parting;", true)
  | 7 => ("TradedDesigns", "setUp", "LTradedDesigns$SetUp;", true)
  | _ => ("TradedDesigns", "tapes", "[LTradedDesigns$Tape;", true)
def tyX9 : Nat → FieldType := fun k => match k with
  | 0 => .object "TradedDesigns$State"
  | 1 => .object "TradedDesigns$State"
  | 2 => .boolean
  | 3 => .object "TradedDesigns$Standing"
  | 4 => .object "TradedDesigns$Twist"
  | 5 => .object "TradedDesigns$OpenTwists"
  | 6 => .object "TradedDesigns$Parting"
  | 7 => .object "TradedDesigns$SetUp"
  | _ => .array (.object "TradedDesigns$Tape")
abbrev wsX90 : List Cond := u_ws RX9 TX9 9
theorem nmX9 : ∀ a, a < 9 → ∀ b, b < 9 → a ≠ b → (TX9 a).2.1 ≠ (TX9 b).2.1 := by decide +kernel
theorem tyX9_ok : ∀ k, k < 9 → parseFieldDescriptor (TX9 k).2.2.1 = some (tyX9 k) := by decide +kernel
abbrev cX9_init : ByteArray := prog_1_method_1_code
def yX9_init : MethodName := ⟨RX9, "<init>", "()V"⟩
abbrev cX9_size : ByteArray := prog_1_method_2_code
def yX9_size : MethodName := ⟨RX9, "size", "(III)I"⟩
abbrev cX9_count : ByteArray := prog_1_method_3_code
def yX9_count : MethodName := ⟨RX9, "count", "(II)I"⟩
abbrev cX9_twist : ByteArray := prog_1_method_4_code
def yX9_twist : MethodName := ⟨RX9, "twist", "(II)I"⟩
abbrev cX9_turn : ByteArray := prog_1_method_5_code
def yX9_turn : MethodName := ⟨RX9, "turn", "()I"⟩
abbrev cX9_clear : ByteArray := prog_1_method_6_code
def yX9_clear : MethodName := ⟨RX9, "clear", "()I"⟩
abbrev cX9_put : ByteArray := prog_1_method_7_code
def yX9_put : MethodName := ⟨RX9, "put", "(II)I"⟩
abbrev cX9_swap : ByteArray := prog_1_method_8_code
def yX9_swap : MethodName := ⟨RX9, "swap", "()I"⟩
abbrev cX9_keep : ByteArray := prog_1_method_9_code
def yX9_keep : MethodName := ⟨RX9, "keep", "()I"⟩
abbrev cX9_differ : ByteArray := prog_1_method_10_code
def yX9_differ : MethodName := ⟨RX9, "differ", "()I"⟩
abbrev cX9_exchange : ByteArray := prog_1_method_11_code
def yX9_exchange : MethodName := ⟨RX9, "exchange", "(II)I"⟩
abbrev cX9_feed : ByteArray := prog_1_method_12_code
def yX9_feed : MethodName := ⟨RX9, "feed", "(I)I"⟩
abbrev cX9_read : ByteArray := prog_1_method_13_code
def yX9_read : MethodName := ⟨RX9, "read", "()I"⟩
abbrev cX9_doClause : ByteArray := prog_1_method_14_code
def yX9_doClause : MethodName := ⟨RX9, "doClause", "(IIII)I"⟩
abbrev cX9_told : ByteArray := prog_1_method_15_code
def yX9_told : MethodName := ⟨RX9, "told", "(I)I"⟩
abbrev cX9_block : ByteArray := prog_1_method_16_code
def yX9_block : MethodName := ⟨RX9, "block", "(I)I"⟩
abbrev cX9_number : ByteArray := prog_1_method_17_code
def yX9_number : MethodName := ⟨RX9, "number", "(I)I"⟩
abbrev cX9_of : ByteArray := prog_1_method_18_code
def yX9_of : MethodName := ⟨RX9, "of", "(II)I"⟩
abbrev cX9_sum : ByteArray := prog_1_method_19_code
def yX9_sum : MethodName := ⟨RX9, "sum", "(I)I"⟩
abbrev cX9_amiss : ByteArray := prog_1_method_20_code
def yX9_amiss : MethodName := ⟨RX9, "amiss", "()I"⟩
abbrev cX9_cover : ByteArray := prog_1_method_21_code
def yX9_cover : MethodName := ⟨RX9, "cover", "(I)I"⟩
abbrev cX9_written : ByteArray := prog_1_method_22_code
def yX9_written : MethodName := ⟨RX9, "written", "(I)I"⟩
abbrev cX9_open : ByteArray := prog_1_method_23_code
def yX9_open : MethodName := ⟨RX9, "open", "(I)I"⟩
abbrev cX9_parted : ByteArray := prog_1_method_24_code
def yX9_parted : MethodName := ⟨RX9, "parted", "(I)I"⟩
abbrev cX9_part : ByteArray := prog_1_method_25_code
def yX9_part : MethodName := ⟨RX9, "part", "(II)I"⟩
abbrev cX9_see : ByteArray := prog_1_method_26_code
def yX9_see : MethodName := ⟨RX9, "see", "(II)I"⟩
abbrev cX9_fits : ByteArray := prog_1_method_27_code
def yX9_fits : MethodName := ⟨RX9, "fits", "(II)I"⟩
abbrev cX9_odds : ByteArray := prog_1_method_28_code
def yX9_odds : MethodName := ⟨RX9, "odds", "(II)J"⟩
abbrev cX9_mean : ByteArray := prog_1_method_29_code
def yX9_mean : MethodName := ⟨RX9, "mean", "(I)J"⟩
abbrev cX9_event : ByteArray := prog_1_method_30_code
def yX9_event : MethodName := ⟨RX9, "event", "(II)I"⟩
abbrev cX9_after : ByteArray := prog_1_method_31_code
def yX9_after : MethodName := ⟨RX9, "after", "(I)I"⟩
abbrev cX9_happen : ByteArray := prog_1_method_32_code
def yX9_happen : MethodName := ⟨RX9, "happen", "(II)V"⟩
abbrev cX9_book : ByteArray := prog_1_method_33_code
def yX9_book : MethodName := ⟨RX9, "book", "(II)I"⟩
abbrev cX9_looked : ByteArray := prog_1_method_34_code
def yX9_looked : MethodName := ⟨RX9, "looked", "()I"⟩
abbrev cX9_judge : ByteArray := prog_1_method_35_code
def yX9_judge : MethodName := ⟨RX9, "judge", "(II)I"⟩
abbrev cX9_image : ByteArray := prog_1_method_36_code
def yX9_image : MethodName := ⟨RX9, "image", "()I"⟩
abbrev cX9_undo : ByteArray := prog_1_method_37_code
def yX9_undo : MethodName := ⟨RX9, "undo", "()I"⟩
abbrev cX9_counted : ByteArray := prog_1_method_38_code
def yX9_counted : MethodName := ⟨RX9, "counted", "(I)I"⟩
abbrev cX9_tape : ByteArray := prog_1_method_39_code
def yX9_tape : MethodName := ⟨RX9, "tape", "(III)I"⟩
abbrev cX9_item : ByteArray := prog_1_method_40_code
def yX9_item : MethodName := ⟨RX9, "item", "(IIJ)I"⟩
abbrev cX9_peek : ByteArray := prog_1_method_41_code
def yX9_peek : MethodName := ⟨RX9, "peek", "(II)J"⟩
abbrev cX9_shift : ByteArray := prog_1_method_42_code
def yX9_shift : MethodName := ⟨RX9, "shift", "(IIIII)I"⟩
abbrev cX9_isCount : ByteArray := prog_1_method_43_code
def yX9_isCount : MethodName := ⟨RX9, "isCount", "(I)Z"⟩
abbrev cX9_isTape : ByteArray := prog_1_method_44_code
def yX9_isTape : MethodName := ⟨RX9, "isTape", "(I)Z"⟩
abbrev cX9_isIn : ByteArray := prog_1_method_45_code
def yX9_isIn : MethodName := ⟨RX9, "isIn", "(JI)Z"⟩
abbrev cX9_withPlacesExchanged : ByteArray := prog_1_method_46_code
def yX9_withPlacesExchanged : MethodName := ⟨RX9, "withPlacesExchanged", "(JII)J"⟩
abbrev cX9_lowestTerm : ByteArray := prog_1_method_47_code
def yX9_lowestTerm : MethodName := ⟨RX9, "lowestTerm", "(III)J"⟩
abbrev cX9_greatestDivisor : ByteArray := prog_1_method_48_code
def yX9_greatestDivisor : MethodName := ⟨RX9, "greatestDivisor", "(II)I"⟩
def RX10 : String := "TradedDesignsModel"
def TX10 : u_T := fun k => match k with
  | 0 => ("TradedDesignsModel", "v", "I", false)
  | 1 => ("TradedDesignsModel", "k", "I", false)
  | 2 => ("TradedDesignsModel", "t", "I", false)
  | 3 => ("TradedDesignsModel", "blocks", "I", false)
  | 4 => ("TradedDesignsModel", "points", "[I", true)
  | 5 => ("TradedDesignsModel", "blockBy", "[I", true)
  | 6 => ("TradedDesignsModel", "counts", "[I", true)
  | 7 => ("TradedDesignsModel", "design", "[I", true)
  | 8 => ("TradedDesignsModel", "held", "[I", true)
  | 9 => ("TradedDesignsModel", "seenSet", "[I", true)
  | 10 => ("TradedDesignsModel", "seenSum", "[I", true)
  | 11 => ("TradedDesignsModel", "seen", "I", false)
  | 12 => ("TradedDesignsModel", "eventWhat", "[I", true)
  | 13 => ("TradedDesignsModel", "eventOf", "[I", true)
  | 14 => ("TradedDesignsModel", "events", "I", false)
  | 15 => ("TradedDesignsModel", "bookBlock", "[I", true)
  | 16 => ("TradedDesignsModel", "bookCount", "[I", true)
  | 17 => ("TradedDesignsModel", "booked", "I", false)
  | 18 => ("TradedDesignsModel", "text", "[I", true)
  | 19 => ("TradedDesignsModel", "texts", "I", false)
  | 20 => ("TradedDesignsModel", "at", "I", false)
  | 21 => ("TradedDesignsModel", "clauseWhat", "[I", true)
  | 22 => ("TradedDesignsModel", "clauseNumbers", "[I", true)
  | 23 => ("TradedDesignsModel", "clauses", "I", false)
  | 24 => ("TradedDesignsModel", "items", "[J", true)
  | 25 => ("TradedDesignsModel", "tapeSort", "[I", true)
  | 26 => ("TradedDesignsModel", "tapeSize", "[I", true)
  | 27 => ("TradedDesignsModel", "image", "[I", true)
  | 28 => ("TradedDesignsModel", "ahead", "[I", true)
  | 29 => ("TradedDesignsModel", "imaged", "Z", false)
  | 30 => ("TradedDesignsModel", "signs", "[I", true)
  | 31 => ("TradedDesignsModel", "digits", "[I", true)
  | 32 => ("TradedDesignsModel", "other", "[I", true)
  | 33 => ("TradedDesignsModel", "signOf", "[I", true)
  | 34 => ("TradedDesignsModel", "written", "I", false)
  | 35 => ("TradedDesignsModel", "label", "[I", true)
  | 36 => ("TradedDesignsModel", "firstLabel", "[I", true)
  | 37 => ("TradedDesignsModel", "covers", "[I", true)
  | 38 => ("TradedDesignsModel", "ways", "I", false)
  | 39 => ("TradedDesignsModel", "opens", "I", false)
  | 40 => ("TradedDesignsModel", "openFirst", "I", false)
  | _ => ("TradedDesignsModel", "openBy", "I", false)
def tyX10 : Nat → FieldType := fun k => match k with
  | 0 => .int
  | 1 => .int
  | 2 => .int
  | 3 => .int
  | 4 => .array .int
  | 5 => .array .int
  | 6 => .array .int
  | 7 => .array .int
  | 8 => .array .int
  | 9 => .array .int
  | 10 => .array .int
  | 11 => .int
  | 12 => .array .int
  | 13 => .array .int
  | 14 => .int
  | 15 => .array .int
  | 16 => .array .int
  | 17 => .int
  | 18 => .array .int
  | 19 => .int
  | 20 => .int
  | 21 => .array .int
  | 22 => .array .int
  | 23 => .int
  | 24 => .array .long
  | 25 => .array .int
  | 26 => .array .int
  | 27 => .array .int
  | 28 => .array .int
  | 29 => .boolean
  | 30 => .array .int
  | 31 => .array .int
  | 32 => .array .int
  | 33 => .array .int
  | 34 => .int
  | 35 => .array .int
  | 36 => .array .int
  | 37 => .array .int
  | 38 => .int
  | 39 => .int
  | 40 => .int
  | _ => .int
abbrev wsX100 : List Cond := u_ws RX10 TX10 42
theorem nmX10 : ∀ a, a < 42 → ∀ b, b < 42 → a ≠ b → (TX10 a).2.1 ≠ (TX10 b).2.1 := by decide +kernel
theorem tyX10_ok : ∀ k, k < 42 → parseFieldDescriptor (TX10 k).2.2.1 = some (tyX10 k) := by decide +kernel
abbrev cX10_init : ByteArray := prog_12_method_1_code
def yX10_init : MethodName := ⟨RX10, "<init>", "()V"⟩
abbrev cX10_in : ByteArray := prog_12_method_2_code
def yX10_in : MethodName := ⟨RX10, "in", "(JJJ)Z"⟩
abbrev cX10_size : ByteArray := prog_12_method_3_code
def yX10_size : MethodName := ⟨RX10, "size", "(I)I"⟩
abbrev cX10_lists : ByteArray := prog_12_method_4_code
def yX10_lists : MethodName := ⟨RX10, "lists", "()V"⟩
abbrev cX10_isBlock : ByteArray := prog_12_method_5_code
def yX10_isBlock : MethodName := ⟨RX10, "isBlock", "(I)Z"⟩
abbrev cX10_isPoint : ByteArray := prog_12_method_6_code
def yX10_isPoint : MethodName := ⟨RX10, "isPoint", "(I)Z"⟩
abbrev cX10_isSet : ByteArray := prog_12_method_7_code
def yX10_isSet : MethodName := ⟨RX10, "isSet", "(II)Z"⟩
abbrev cX10_isSize : ByteArray := prog_12_method_8_code
def yX10_isSize : MethodName := ⟨RX10, "isSize", "(III)Z"⟩
abbrev cX10_shape : ByteArray := prog_12_method_9_code
def yX10_shape : MethodName := ⟨RX10, "shape", "()I"⟩
abbrev cX10_becomes : ByteArray := prog_12_method_10_code
def yX10_becomes : MethodName := ⟨RX10, "becomes", "(III)V"⟩
abbrev cX10_size_ : ByteArray := prog_12_method_11_code
def yX10_size_ : MethodName := ⟨RX10, "size", "(III)I"⟩
abbrev cX10_count : ByteArray := prog_12_method_12_code
def yX10_count : MethodName := ⟨RX10, "count", "(II)I"⟩
abbrev cX10_volume : ByteArray := prog_12_method_13_code
def yX10_volume : MethodName := ⟨RX10, "volume", "()I"⟩
abbrev cX10_twists : ByteArray := prog_12_method_14_code
def yX10_twists : MethodName := ⟨RX10, "twists", "(I)Z"⟩
abbrev cX10_adds : ByteArray := prog_12_method_15_code
def yX10_adds : MethodName := ⟨RX10, "adds", "(I)Z"⟩
abbrev cX10_twist : ByteArray := prog_12_method_16_code
def yX10_twist : MethodName := ⟨RX10, "twist", "(II)I"⟩
abbrev cX10_turn : ByteArray := prog_12_method_17_code
def yX10_turn : MethodName := ⟨RX10, "turn", "()I"⟩
abbrev cX10_clear : ByteArray := prog_12_method_18_code
def yX10_clear : MethodName := ⟨RX10, "clear", "()I"⟩
abbrev cX10_put : ByteArray := prog_12_method_19_code
def yX10_put : MethodName := ⟨RX10, "put", "(II)I"⟩
abbrev cX10_inDesign : ByteArray := prog_12_method_20_code
def yX10_inDesign : MethodName := ⟨RX10, "inDesign", "()I"⟩
abbrev cX10_sumOf : ByteArray := prog_12_method_21_code
def yX10_sumOf : MethodName := ⟨RX10, "sumOf", "(I)I"⟩
abbrev cX10_isTrade : ByteArray := prog_12_method_22_code
def yX10_isTrade : MethodName := ⟨RX10, "isTrade", "()Z"⟩
abbrev cX10_isPlain : ByteArray := prog_12_method_23_code
def yX10_isPlain : MethodName := ⟨RX10, "isPlain", "()Z"⟩
abbrev cX10_maySwap : ByteArray := prog_12_method_24_code
def yX10_maySwap : MethodName := ⟨RX10, "maySwap", "()Z"⟩
abbrev cX10_swaps : ByteArray := prog_12_method_25_code
def yX10_swaps : MethodName := ⟨RX10, "swaps", "()V"⟩
abbrev cX10_swap : ByteArray := prog_12_method_26_code
def yX10_swap : MethodName := ⟨RX10, "swap", "()I"⟩
abbrev cX10_keep : ByteArray := prog_12_method_27_code
def yX10_keep : MethodName := ⟨RX10, "keep", "()I"⟩
abbrev cX10_differ : ByteArray := prog_12_method_28_code
def yX10_differ : MethodName := ⟨RX10, "differ", "()I"⟩
abbrev cX10_exchanges : ByteArray := prog_12_method_29_code
def yX10_exchanges : MethodName := ⟨RX10, "exchanges", "([III)V"⟩
abbrev cX10_exchange : ByteArray := prog_12_method_30_code
def yX10_exchange : MethodName := ⟨RX10, "exchange", "(II)I"⟩
abbrev cX10_feed : ByteArray := prog_12_method_31_code
def yX10_feed : MethodName := ⟨RX10, "feed", "(I)I"⟩
abbrev cX10_sign : ByteArray := prog_12_method_32_code
def yX10_sign : MethodName := ⟨RX10, "sign", "()I"⟩
abbrev cX10_word : ByteArray := prog_12_method_33_code
def yX10_word : MethodName := ⟨RX10, "word", "(Ljava/lang/String;)Z"⟩
abbrev cX10_what : ByteArray := prog_12_method_34_code
def yX10_what : MethodName := ⟨RX10, "what", "()I"⟩
abbrev cX10_numbersOf : ByteArray := prog_12_method_35_code
def yX10_numbersOf : MethodName := ⟨RX10, "numbersOf", "(I)I"⟩
abbrev cX10_numeral : ByteArray := prog_12_method_36_code
def yX10_numeral : MethodName := ⟨RX10, "numeral", "(I)Z"⟩
abbrev cX10_reads : ByteArray := prog_12_method_37_code
def yX10_reads : MethodName := ⟨RX10, "reads", "()Z"⟩
abbrev cX10_does : ByteArray := prog_12_method_38_code
def yX10_does : MethodName := ⟨RX10, "does", "(I)Z"⟩
abbrev cX10_read : ByteArray := prog_12_method_39_code
def yX10_read : MethodName := ⟨RX10, "read", "()I"⟩
abbrev cX10_coverOf : ByteArray := prog_12_method_40_code
def yX10_coverOf : MethodName := ⟨RX10, "coverOf", "(I)I"⟩
abbrev cX10_index : ByteArray := prog_12_method_41_code
def yX10_index : MethodName := ⟨RX10, "index", "()I"⟩
abbrev cX10_foundation : ByteArray := prog_12_method_42_code
def yX10_foundation : MethodName := ⟨RX10, "foundation", "()I"⟩
abbrev cX10_told : ByteArray := prog_12_method_43_code
def yX10_told : MethodName := ⟨RX10, "told", "(I)I"⟩
abbrev cX10_block : ByteArray := prog_12_method_44_code
def yX10_block : MethodName := ⟨RX10, "block", "(I)I"⟩
abbrev cX10_number : ByteArray := prog_12_method_45_code
def yX10_number : MethodName := ⟨RX10, "number", "(I)I"⟩
abbrev cX10_of : ByteArray := prog_12_method_46_code
def yX10_of : MethodName := ⟨RX10, "of", "(II)I"⟩
abbrev cX10_sum : ByteArray := prog_12_method_47_code
def yX10_sum : MethodName := ⟨RX10, "sum", "(I)I"⟩
abbrev cX10_amiss : ByteArray := prog_12_method_48_code
def yX10_amiss : MethodName := ⟨RX10, "amiss", "()I"⟩
abbrev cX10_cover : ByteArray := prog_12_method_49_code
def yX10_cover : MethodName := ⟨RX10, "cover", "(I)I"⟩
abbrev cX10_write : ByteArray := prog_12_method_50_code
def yX10_write : MethodName := ⟨RX10, "write", "(I)V"⟩
abbrev cX10_writes : ByteArray := prog_12_method_51_code
def yX10_writes : MethodName := ⟨RX10, "writes", "()V"⟩
abbrev cX10_written : ByteArray := prog_12_method_52_code
def yX10_written : MethodName := ⟨RX10, "written", "(I)I"⟩
abbrev cX10_isOpen : ByteArray := prog_12_method_53_code
def yX10_isOpen : MethodName := ⟨RX10, "isOpen", "(I)Z"⟩
abbrev cX10_opens : ByteArray := prog_12_method_54_code
def yX10_opens : MethodName := ⟨RX10, "opens", "(III)V"⟩
abbrev cX10_open : ByteArray := prog_12_method_55_code
def yX10_open : MethodName := ⟨RX10, "open", "(I)I"⟩
abbrev cX10_isLookedFor : ByteArray := prog_12_method_56_code
def yX10_isLookedFor : MethodName := ⟨RX10, "isLookedFor", "()Z"⟩
abbrev cX10_deals : ByteArray := prog_12_method_57_code
def yX10_deals : MethodName := ⟨RX10, "deals", "(IIII)V"⟩
abbrev cX10_takes : ByteArray := prog_12_method_58_code
def yX10_takes : MethodName := ⟨RX10, "takes", "(III)Z"⟩
abbrev cX10_parts : ByteArray := prog_12_method_59_code
def yX10_parts : MethodName := ⟨RX10, "parts", "(I)V"⟩
abbrev cX10_parted : ByteArray := prog_12_method_60_code
def yX10_parted : MethodName := ⟨RX10, "parted", "(I)I"⟩
abbrev cX10_part : ByteArray := prog_12_method_61_code
def yX10_part : MethodName := ⟨RX10, "part", "(II)I"⟩
abbrev cX10_see : ByteArray := prog_12_method_62_code
def yX10_see : MethodName := ⟨RX10, "see", "(II)I"⟩
abbrev cX10_isSeen : ByteArray := prog_12_method_63_code
def yX10_isSeen : MethodName := ⟨RX10, "isSeen", "()Z"⟩
abbrev cX10_fits : ByteArray := prog_12_method_64_code
def yX10_fits : MethodName := ⟨RX10, "fits", "(II)I"⟩
abbrev cX10_lowest : ByteArray := prog_12_method_65_code
def yX10_lowest : MethodName := ⟨RX10, "lowest", "(III)J"⟩
abbrev cX10_odds : ByteArray := prog_12_method_66_code
def yX10_odds : MethodName := ⟨RX10, "odds", "(II)J"⟩
abbrev cX10_mean : ByteArray := prog_12_method_67_code
def yX10_mean : MethodName := ⟨RX10, "mean", "(I)J"⟩
abbrev cX10_event : ByteArray := prog_12_method_68_code
def yX10_event : MethodName := ⟨RX10, "event", "(II)I"⟩
abbrev cX10_happens : ByteArray := prog_12_method_69_code
def yX10_happens : MethodName := ⟨RX10, "happens", "(II)V"⟩
abbrev cX10_after : ByteArray := prog_12_method_70_code
def yX10_after : MethodName := ⟨RX10, "after", "(I)I"⟩
abbrev cX10_book : ByteArray := prog_12_method_71_code
def yX10_book : MethodName := ⟨RX10, "book", "(II)I"⟩
abbrev cX10_looked : ByteArray := prog_12_method_72_code
def yX10_looked : MethodName := ⟨RX10, "looked", "()I"⟩
abbrev cX10_judge : ByteArray := prog_12_method_73_code
def yX10_judge : MethodName := ⟨RX10, "judge", "(II)I"⟩
abbrev cX10_keepTo : ByteArray := prog_12_method_74_code
def yX10_keepTo : MethodName := ⟨RX10, "keepTo", "([I)V"⟩
abbrev cX10_again : ByteArray := prog_12_method_75_code
def yX10_again : MethodName := ⟨RX10, "again", "([I)V"⟩
abbrev cX10_image : ByteArray := prog_12_method_76_code
def yX10_image : MethodName := ⟨RX10, "image", "()I"⟩
abbrev cX10_undo : ByteArray := prog_12_method_77_code
def yX10_undo : MethodName := ⟨RX10, "undo", "()I"⟩
abbrev cX10_counted : ByteArray := prog_12_method_78_code
def yX10_counted : MethodName := ⟨RX10, "counted", "(I)I"⟩
abbrev cX10_isTape : ByteArray := prog_12_method_79_code
def yX10_isTape : MethodName := ⟨RX10, "isTape", "(I)Z"⟩
abbrev cX10_tape : ByteArray := prog_12_method_80_code
def yX10_tape : MethodName := ⟨RX10, "tape", "(III)I"⟩
abbrev cX10_hasItem : ByteArray := prog_12_method_81_code
def yX10_hasItem : MethodName := ⟨RX10, "hasItem", "(II)Z"⟩
abbrev cX10_item : ByteArray := prog_12_method_82_code
def yX10_item : MethodName := ⟨RX10, "item", "(IIJ)I"⟩
abbrev cX10_peek : ByteArray := prog_12_method_83_code
def yX10_peek : MethodName := ⟨RX10, "peek", "(II)J"⟩
abbrev cX10_shift : ByteArray := prog_12_method_84_code
def yX10_shift : MethodName := ⟨RX10, "shift", "(IIIII)I"⟩
def RJ6 : String := "java/lang/Integer"
def TJ6 : u_T := fun k => match k with
  | _ => ("", "", "", false)
def tyJ6 : Nat → FieldType := fun k => match k with
  | _ => .int
abbrev wsJ60 : List Cond := u_ws RJ6 TJ6 0
theorem nmJ6 : ∀ a, a < 0 → ∀ b, b < 0 → a ≠ b → (TJ6 a).2.1 ≠ (TJ6 b).2.1 := by decide +kernel
theorem tyJ6_ok : ∀ k, k < 0 → parseFieldDescriptor (TJ6 k).2.2.1 = some (tyJ6 k) := by decide +kernel
abbrev cJ6_bitCount_0f7a4 : ByteArray := prog_13_method_49_code
def yJ6_bitCount_0f7a4 : MethodName := ⟨RJ6, "bitCount", "(I)I"⟩
def RJ13 : String := "java/lang/Long"
def TJ13 : u_T := fun k => match k with
  | _ => ("", "", "", false)
def tyJ13 : Nat → FieldType := fun k => match k with
  | _ => .int
abbrev wsJ130 : List Cond := u_ws RJ13 TJ13 0
theorem nmJ13 : ∀ a, a < 0 → ∀ b, b < 0 → a ≠ b → (TJ13 a).2.1 ≠ (TJ13 b).2.1 := by decide +kernel
theorem tyJ13_ok : ∀ k, k < 0 → parseFieldDescriptor (TJ13 k).2.2.1 = some (tyJ13 k) := by decide +kernel
abbrev cJ13_bitCount_95d88 : ByteArray := prog_14_method_50_code
def yJ13_bitCount_95d88 : MethodName := ⟨RJ13, "bitCount", "(J)I"⟩
def RJ9 : String := "java/lang/Math"
def TJ9 : u_T := fun k => match k with
  | _ => ("", "", "", false)
def tyJ9 : Nat → FieldType := fun k => match k with
  | _ => .int
abbrev wsJ90 : List Cond := u_ws RJ9 TJ9 0
theorem nmJ9 : ∀ a, a < 0 → ∀ b, b < 0 → a ≠ b → (TJ9 a).2.1 ≠ (TJ9 b).2.1 := by decide +kernel
theorem tyJ9_ok : ∀ k, k < 0 → parseFieldDescriptor (TJ9 k).2.2.1 = some (tyJ9 k) := by decide +kernel
abbrev cJ9_abs_0f7a4 : ByteArray := prog_15_method_59_code
def yJ9_abs_0f7a4 : MethodName := ⟨RJ9, "abs", "(I)I"⟩
abbrev cJ9_max_7cf53 : ByteArray := prog_15_method_65_code
def yJ9_max_7cf53 : MethodName := ⟨RJ9, "max", "(II)I"⟩
abbrev cJ9_min_7cf53 : ByteArray := prog_15_method_69_code
def yJ9_min_7cf53 : MethodName := ⟨RJ9, "min", "(II)I"⟩
def RJ0 : String := "java/lang/String"
def TJ0 : u_T := fun k => match k with
  | _ => ("", "", "", false)
def tyJ0 : Nat → FieldType := fun k => match k with
  | _ => .int
abbrev wsJ00 : List Cond := u_ws RJ0 TJ0 0
theorem nmJ0 : ∀ a, a < 0 → ∀ b, b < 0 → a ≠ b → (TJ0 a).2.1 ≠ (TJ0 b).2.1 := by decide +kernel
theorem tyJ0_ok : ∀ k, k < 0 → parseFieldDescriptor (TJ0 k).2.2.1 = some (tyJ0 k) := by decide +kernel
abbrev cJ0_length_8abf5 : ByteArray := prog_16_method_54_code
def yJ0_length_8abf5 : MethodName := ⟨RJ0, "length", "()I"⟩
abbrev cJ0_charAt_5068e : ByteArray := prog_16_method_56_code
def yJ0_charAt_5068e : MethodName := ⟨RJ0, "charAt", "(I)C"⟩
abbrev cJ0_coder_7d493 : ByteArray := prog_16_method_152_code
def yJ0_coder_7d493 : MethodName := ⟨RJ0, "coder", "()B"⟩
abbrev cJ0_isLatin1_aae02 : ByteArray := prog_16_method_154_code
def yJ0_isLatin1_aae02 : MethodName := ⟨RJ0, "isLatin1", "()Z"⟩
abbrev cJ0_checkIndex_df160 : ByteArray := prog_16_method_155_code
def yJ0_checkIndex_df160 : MethodName := ⟨RJ0, "checkIndex", "(II)V"⟩
def RJ1 : String := "java/lang/StringLatin1"
def TJ1 : u_T := fun k => match k with
  | _ => ("", "", "", false)
def tyJ1 : Nat → FieldType := fun k => match k with
  | _ => .int
abbrev wsJ10 : List Cond := u_ws RJ1 TJ1 0
theorem nmJ1 : ∀ a, a < 0 → ∀ b, b < 0 → a ≠ b → (TJ1 a).2.1 ≠ (TJ1 b).2.1 := by decide +kernel
theorem tyJ1_ok : ∀ k, k < 0 → parseFieldDescriptor (TJ1 k).2.2.1 = some (tyJ1 k) := by decide +kernel
abbrev cJ1_charAt_3b067 : ByteArray := prog_17_method_2_code
def yJ1_charAt_3b067 : MethodName := ⟨RJ1, "charAt", "([BI)C"⟩
def RJ2 : String := "java/lang/StringUTF16"
def TJ2 : u_T := fun k => match k with
  | _ => ("", "", "", false)
def tyJ2 : Nat → FieldType := fun k => match k with
  | _ => .int
abbrev wsJ20 : List Cond := u_ws RJ2 TJ2 0
theorem nmJ2 : ∀ a, a < 0 → ∀ b, b < 0 → a ≠ b → (TJ2 a).2.1 ≠ (TJ2 b).2.1 := by decide +kernel
theorem tyJ2_ok : ∀ k, k < 0 → parseFieldDescriptor (TJ2 k).2.2.1 = some (tyJ2 k) := by decide +kernel
abbrev cJ2_getChar_3b067 : ByteArray := prog_18_method_5_code
def yJ2_getChar_3b067 : MethodName := ⟨RJ2, "getChar", "([BI)C"⟩
abbrev cJ2_length_9d52b : ByteArray := prog_18_method_6_code
def yJ2_length_9d52b : MethodName := ⟨RJ2, "length", "([B)I"⟩
abbrev cJ2_charAt_3b067 : ByteArray := prog_18_method_83_code
def yJ2_charAt_3b067 : MethodName := ⟨RJ2, "charAt", "([BI)C"⟩
abbrev cJ2_checkIndex_2214a : ByteArray := prog_18_method_91_code
def yJ2_checkIndex_2214a : MethodName := ⟨RJ2, "checkIndex", "(I[B)V"⟩
def RJ10 : String := "java/lang/System"
def TJ10 : u_T := fun k => match k with
  | _ => ("", "", "", false)
def tyJ10 : Nat → FieldType := fun k => match k with
  | _ => .int
abbrev wsJ100 : List Cond := u_ws RJ10 TJ10 0
theorem nmJ10 : ∀ a, a < 0 → ∀ b, b < 0 → a ≠ b → (TJ10 a).2.1 ≠ (TJ10 b).2.1 := by decide +kernel
theorem tyJ10_ok : ∀ k, k < 0 → parseFieldDescriptor (TJ10 k).2.2.1 = some (tyJ10 k) := by decide +kernel
def RJ3 : String := "jdk/internal/util/Preconditions"
def TJ3 : u_T := fun k => match k with
  | _ => ("", "", "", false)
def tyJ3 : Nat → FieldType := fun k => match k with
  | _ => .int
abbrev wsJ30 : List Cond := u_ws RJ3 TJ3 0
theorem nmJ3 : ∀ a, a < 0 → ∀ b, b < 0 → a ≠ b → (TJ3 a).2.1 ≠ (TJ3 b).2.1 := by decide +kernel
theorem tyJ3_ok : ∀ k, k < 0 → parseFieldDescriptor (TJ3 k).2.2.1 = some (tyJ3 k) := by decide +kernel
abbrev cJ3_checkIndex_8e157 : ByteArray := prog_20_method_11_code
def yJ3_checkIndex_8e157 : MethodName := ⟨RJ3, "checkIndex", "(IILjava/util/function/BiFunction;)I"⟩
def RL : String := "TradedDesignsLaw"
abbrev cL_law : ByteArray := code
def yL_law : MethodName := ⟨RL, "law", "([I)Z"⟩
abbrev vwCl : List vw_C := [(RX0, TX0, 6), (RX1, TX1, 4), (RX2, TX2, 8), (RX3, TX3, 3), (RX4, TX4, 6), (RX5, TX5, 4), (RX6, TX6, 5), (RX7, TX7, 3), (RX8, TX8, 3), (RX9, TX9, 9), (RX10, TX10, 42)]
/-- the tables' words that go through every call -/
def AW : List Cond := lw_tbl.filter goodWord
theorem aw_of {w : Cond} (h : w ∈ lw_tbl) (g : goodWord w = true) : w ∈ AW := List.mem_filter.mpr ⟨h, g⟩
theorem aw_in {w : Cond} (h : w ∈ AW) : w ∈ lw_tbl := (List.mem_filter.mp h).1
theorem aw_good : GoodIn AW AW := fun w h => ⟨h, good_of_word (List.mem_filter.mp h).2⟩
theorem aw_goodT : GoodIn lw_tbl AW := fun w h => ⟨aw_in h, good_of_word (List.mem_filter.mp h).2⟩
theorem tb_1 {w : Cond} (h : w ∈ tables_1_1) : w ∈ lw_tbl := List.mem_append_right _ (show w ∈ tables_1 from List.mem_append_left _ h)
theorem tb_2 {w : Cond} (h : w ∈ tables_1_2) : w ∈ lw_tbl := List.mem_append_right _ (show w ∈ tables_1 from List.mem_append_right _ (List.mem_append_left _ h))
theorem tb_3 {w : Cond} (h : w ∈ tables_1_3) : w ∈ lw_tbl := List.mem_append_right _ (show w ∈ tables_1 from List.mem_append_right _ (List.mem_append_right _ (List.mem_append_left _ h)))
theorem tb_4 {w : Cond} (h : w ∈ tables_1_4) : w ∈ lw_tbl := List.mem_append_right _ (show w ∈ tables_1 from List.mem_append_right _ (List.mem_append_right _ (List.mem_append_right _ (List.mem_append_left _ h))))
theorem tb_5 {w : Cond} (h : w ∈ tables_1_5) : w ∈ lw_tbl := List.mem_append_right _ (show w ∈ tables_1 from List.mem_append_right _ (List.mem_append_right _ (List.mem_append_right _ (List.mem_append_right _ (List.mem_append_left _ h)))))
theorem tb_6 {w : Cond} (h : w ∈ tables_1_6) : w ∈ lw_tbl := List.mem_append_right _ (show w ∈ tables_1 from List.mem_append_right _ (List.mem_append_right _ (List.mem_append_right _ (List.mem_append_right _ (List.mem_append_right _ (h))))))
theorem in_L : (.initialized RL : Cond) ∈ AW := aw_of (tb_1 (List.mem_of_getElem? (i := 0) rfl)) rfl
theorem in_X9 : (.initialized RX9 : Cond) ∈ AW := aw_of (tb_1 (List.mem_of_getElem? (i := 1) rfl)) rfl
theorem in_X6 : (.initialized RX6 : Cond) ∈ AW := aw_of (tb_1 (List.mem_of_getElem? (i := 2) rfl)) rfl
theorem in_X0 : (.initialized RX0 : Cond) ∈ AW := aw_of (tb_1 (List.mem_of_getElem? (i := 3) rfl)) rfl
theorem in_X5 : (.initialized RX5 : Cond) ∈ AW := aw_of (tb_1 (List.mem_of_getElem? (i := 4) rfl)) rfl
theorem in_X3 : (.initialized RX3 : Cond) ∈ AW := aw_of (tb_1 (List.mem_of_getElem? (i := 5) rfl)) rfl
theorem in_J9 : (.initialized RJ9 : Cond) ∈ AW := aw_of (tb_1 (List.mem_of_getElem? (i := 6) rfl)) rfl
theorem in_J6 : (.initialized RJ6 : Cond) ∈ AW := aw_of (tb_1 (List.mem_of_getElem? (i := 7) rfl)) rfl
theorem in_X8 : (.initialized RX8 : Cond) ∈ AW := aw_of (tb_1 (List.mem_of_getElem? (i := 8) rfl)) rfl
theorem in_X1 : (.initialized RX1 : Cond) ∈ AW := aw_of (tb_1 (List.mem_of_getElem? (i := 9) rfl)) rfl
theorem in_X2 : (.initialized RX2 : Cond) ∈ AW := aw_of (tb_1 (List.mem_of_getElem? (i := 10) rfl)) rfl
theorem in_X4 : (.initialized RX4 : Cond) ∈ AW := aw_of (tb_1 (List.mem_of_getElem? (i := 11) rfl)) rfl
theorem in_X7 : (.initialized RX7 : Cond) ∈ AW := aw_of (tb_1 (List.mem_of_getElem? (i := 12) rfl)) rfl
theorem in_X10 : (.initialized RX10 : Cond) ∈ AW := aw_of (tb_1 (List.mem_of_getElem? (i := 13) rfl)) rfl
theorem in_J13 : (.initialized RJ13 : Cond) ∈ AW := aw_of (tb_1 (List.mem_of_getElem? (i := 14) rfl)) rfl
theorem in_J0 : (.initialized RJ0 : Cond) ∈ AW := aw_of (tb_1 (List.mem_of_getElem? (i := 15) rfl)) rfl
theorem in_J1 : (.initialized RJ1 : Cond) ∈ AW := aw_of (tb_1 (List.mem_of_getElem? (i := 16) rfl)) rfl
theorem in_J3 : (.initialized RJ3 : Cond) ∈ AW := aw_of (tb_1 (List.mem_of_getElem? (i := 17) rfl)) rfl
theorem in_J2 : (.initialized RJ2 : Cond) ∈ AW := aw_of (tb_1 (List.mem_of_getElem? (i := 18) rfl)) rfl
theorem in_J10 : (.initialized RJ10 : Cond) ∈ AW := aw_of (tb_1 (List.mem_of_getElem? (i := 19) rfl)) rfl
theorem cl_L_7 : (.classLink RL 7 RX9 : Cond) ∈ AW := aw_of (tb_1 (List.mem_of_getElem? (i := 20) rfl)) rfl
theorem ib_X9 : (.instantiable RX9 9 : Cond) ∈ AW := aw_of (tb_1 (List.mem_of_getElem? (i := 21) rfl)) rfl
theorem ml_L_9 : (.methodLink RL 9 yX9_init : Cond) ∈ AW := aw_of (tb_1 (List.mem_of_getElem? (i := 22) rfl)) rfl
theorem im_X9_init : (.instanceMethod yX9_init : Cond) ∈ AW := aw_of (tb_1 (List.mem_of_getElem? (i := 23) rfl)) rfl
theorem co_X9_init : (.code yX9_init cX9_init 2 (Option.none : Option Jvm.ClassFile.FieldType) : Cond) ∈ AW := aw_of (tb_1 (List.mem_of_getElem? (i := 24) rfl)) rfl
theorem ml_X9_3 : (.methodLink RX9 3 objectInit : Cond) ∈ AW := aw_of (tb_1 (List.mem_of_getElem? (i := 25) rfl)) rfl
theorem im_java_lang_Object__init_ : (.instanceMethod objectInit : Cond) ∈ AW := aw_of (tb_1 (List.mem_of_getElem? (i := 26) rfl)) rfl
theorem co_object : (.code objectInit ⟨#[0xb1]⟩ 1 none : Cond) ∈ AW := aw_of (tb_1 (List.mem_of_getElem? (i := 27) rfl)) rfl
theorem cl_X9_9 : (.classLink RX9 9 RX6 : Cond) ∈ AW := aw_of (tb_1 (List.mem_of_getElem? (i := 28) rfl)) rfl
theorem ib_X6 : (.instantiable RX6 5 : Cond) ∈ AW := aw_of (tb_1 (List.mem_of_getElem? (i := 29) rfl)) rfl
theorem ml_X9_11 : (.methodLink RX9 11 yX6_init : Cond) ∈ AW := aw_of (tb_1 (List.mem_of_getElem? (i := 30) rfl)) rfl
theorem im_X6_init : (.instanceMethod yX6_init : Cond) ∈ AW := aw_of (tb_1 (List.mem_of_getElem? (i := 31) rfl)) rfl
theorem co_X6_init : (.code yX6_init cX6_init 1 (Option.none : Option Jvm.ClassFile.FieldType) : Cond) ∈ AW := aw_of (tb_1 (List.mem_of_getElem? (i := 32) rfl)) rfl
theorem ml_X6_1 : (.methodLink RX6 1 objectInit : Cond) ∈ AW := aw_of (tb_1 (List.mem_of_getElem? (i := 33) rfl)) rfl
theorem cl_X6_7 : (.classLink RX6 7 RX0 : Cond) ∈ AW := aw_of (tb_1 (List.mem_of_getElem? (i := 34) rfl)) rfl
theorem ib_X0 : (.instantiable RX0 6 : Cond) ∈ AW := aw_of (tb_1 (List.mem_of_getElem? (i := 35) rfl)) rfl
theorem im_X0_init : (.instanceMethod yX0_init : Cond) ∈ AW := aw_of (tb_1 (List.mem_of_getElem? (i := 37) rfl)) rfl
theorem co_X0_init : (.code yX0_init cX0_init 1 (Option.none : Option Jvm.ClassFile.FieldType) : Cond) ∈ AW := aw_of (tb_1 (List.mem_of_getElem? (i := 38) rfl)) rfl
theorem ml_X0_3 : (.methodLink RX0 3 objectInit : Cond) ∈ AW := aw_of (tb_1 (List.mem_of_getElem? (i := 39) rfl)) rfl
theorem fl_X0_18 : (.fieldLink RX0 18 "TradedDesigns$Blocks" "v" "I" : Cond) ∈ AW := aw_of (tb_1 (List.mem_of_getElem? (i := 40) rfl)) rfl
theorem fl_X1_51 : (.fieldLink RX1 51 "TradedDesigns$Blocks" "v" "I" : Cond) ∈ AW := aw_of (tb_1 (List.mem_of_getElem? (i := 41) rfl)) rfl
theorem fl_X2_75 : (.fieldLink RX2 75 "TradedDesigns$Blocks" "v" "I" : Cond) ∈ AW := aw_of (tb_1 (List.mem_of_getElem? (i := 42) rfl)) rfl
theorem fl_X5_96 : (.fieldLink RX5 96 "TradedDesigns$Blocks" "v" "I" : Cond) ∈ AW := aw_of (tb_1 (List.mem_of_getElem? (i := 43) rfl)) rfl
theorem fl_X0_22 : (.fieldLink RX0 22 "TradedDesigns$Blocks" "k" "I" : Cond) ∈ AW := aw_of (tb_1 (List.mem_of_getElem? (i := 44) rfl)) rfl
theorem fl_X8_25 : (.fieldLink RX8 25 "TradedDesigns$Blocks" "k" "I" : Cond) ∈ AW := aw_of (tb_1 (List.mem_of_getElem? (i := 45) rfl)) rfl
theorem fl_X2_44 : (.fieldLink RX2 44 "TradedDesigns$Blocks" "k" "I" : Cond) ∈ AW := aw_of (tb_1 (List.mem_of_getElem? (i := 46) rfl)) rfl
theorem fl_X9_230 : (.fieldLink RX9 230 "TradedDesigns$Blocks" "k" "I" : Cond) ∈ AW := aw_of (tb_1 (List.mem_of_getElem? (i := 47) rfl)) rfl
theorem fl_X5_117 : (.fieldLink RX5 117 "TradedDesigns$Blocks" "k" "I" : Cond) ∈ AW := aw_of (tb_1 (List.mem_of_getElem? (i := 48) rfl)) rfl
theorem fl_X8_20 : (.fieldLink RX8 20 "TradedDesigns$Blocks" "t" "I" : Cond) ∈ AW := aw_of (tb_1 (List.mem_of_getElem? (i := 49) rfl)) rfl
theorem fl_X0_25 : (.fieldLink RX0 25 "TradedDesigns$Blocks" "t" "I" : Cond) ∈ AW := aw_of (tb_1 (List.mem_of_getElem? (i := 50) rfl)) rfl
theorem fl_X2_41 : (.fieldLink RX2 41 "TradedDesigns$Blocks" "t" "I" : Cond) ∈ AW := aw_of (tb_1 (List.mem_of_getElem? (i := 51) rfl)) rfl
theorem fl_X9_217 : (.fieldLink RX9 217 "TradedDesigns$Blocks" "t" "I" : Cond) ∈ AW := aw_of (tb_1 (List.mem_of_getElem? (i := 52) rfl)) rfl
theorem fl_X5_90 : (.fieldLink RX5 90 "TradedDesigns$Blocks" "t" "I" : Cond) ∈ AW := aw_of (tb_1 (List.mem_of_getElem? (i := 53) rfl)) rfl
theorem fl_X0_28 : (.fieldLink RX0 28 "TradedDesigns$Blocks" "many" "I" : Cond) ∈ AW := aw_of (tb_1 (List.mem_of_getElem? (i := 54) rfl)) rfl
theorem fl_X2_38 : (.fieldLink RX2 38 "TradedDesigns$Blocks" "many" "I" : Cond) ∈ AW := aw_of (tb_1 (List.mem_of_getElem? (i := 55) rfl)) rfl
theorem fl_X5_35 : (.fieldLink RX5 35 "TradedDesigns$Blocks" "many" "I" : Cond) ∈ AW := aw_of (tb_1 (List.mem_of_getElem? (i := 56) rfl)) rfl
theorem fl_X9_202 : (.fieldLink RX9 202 "TradedDesigns$Blocks" "many" "I" : Cond) ∈ AW := aw_of (tb_1 (List.mem_of_getElem? (i := 57) rfl)) rfl
theorem fl_X0_9 : (.fieldLink RX0 9 "TradedDesigns$Blocks" "bits" "[I" : Cond) ∈ AW := aw_of (tb_1 (List.mem_of_getElem? (i := 58) rfl)) rfl
theorem fl_X5_66 : (.fieldLink RX5 66 "TradedDesigns$Blocks" "bits" "[I" : Cond) ∈ AW := aw_of (tb_1 (List.mem_of_getElem? (i := 59) rfl)) rfl
theorem fl_X9_220 : (.fieldLink RX9 220 "TradedDesigns$Blocks" "bits" "[I" : Cond) ∈ AW := aw_of (tb_1 (List.mem_of_getElem? (i := 60) rfl)) rfl
theorem fl_X0_15 : (.fieldLink RX0 15 "TradedDesigns$Blocks" "numbers" "[I" : Cond) ∈ AW := aw_of (tb_1 (List.mem_of_getElem? (i := 61) rfl)) rfl
theorem ac_int : (.arrayClass Jvm.ClassFile.FieldType.int : Cond) ∈ AW := aw_of (tb_1 (List.mem_of_getElem? (i := 75) rfl)) rfl
theorem cl_X6_16 : (.classLink RX6 16 RX5 : Cond) ∈ AW := aw_of (tb_1 (List.mem_of_getElem? (i := 76) rfl)) rfl
theorem ib_X5 : (.instantiable RX5 4 : Cond) ∈ AW := aw_of (tb_1 (List.mem_of_getElem? (i := 77) rfl)) rfl
theorem ml_X6_18 : (.methodLink RX6 18 yX5_init : Cond) ∈ AW := aw_of (tb_1 (List.mem_of_getElem? (i := 78) rfl)) rfl
theorem im_X5_init : (.instanceMethod yX5_init : Cond) ∈ AW := aw_of (tb_1 (List.mem_of_getElem? (i := 79) rfl)) rfl
theorem co_X5_init : (.code yX5_init cX5_init 2 (Option.none : Option Jvm.ClassFile.FieldType) : Cond) ∈ AW := aw_of (tb_1 (List.mem_of_getElem? (i := 80) rfl)) rfl
theorem ml_X5_3 : (.methodLink RX5 3 objectInit : Cond) ∈ AW := aw_of (tb_1 (List.mem_of_getElem? (i := 81) rfl)) rfl
theorem fl_X5_22 : (.fieldLink RX5 22 "TradedDesigns$Standing" "blocks" "LTradedDesigns$Blocks;" : Cond) ∈ AW := aw_of (tb_1 (List.mem_of_getElem? (i := 82) rfl)) rfl
theorem fl_X1_26 : (.fieldLink RX1 26 "TradedDesigns$Standing" "blocks" "LTradedDesigns$Blocks;" : Cond) ∈ AW := aw_of (tb_1 (List.mem_of_getElem? (i := 83) rfl)) rfl
theorem fl_X5_9 : (.fieldLink RX5 9 "TradedDesigns$Standing" "counts" "[I" : Cond) ∈ AW := aw_of (tb_1 (List.mem_of_getElem? (i := 84) rfl)) rfl
theorem fl_X9_96 : (.fieldLink RX9 96 "TradedDesigns$Standing" "counts" "[I" : Cond) ∈ AW := aw_of (tb_1 (List.mem_of_getElem? (i := 85) rfl)) rfl
theorem fl_X5_15 : (.fieldLink RX5 15 "TradedDesigns$Standing" "design" "J" : Cond) ∈ AW := aw_of (tb_1 (List.mem_of_getElem? (i := 86) rfl)) rfl
theorem fl_X1_67 : (.fieldLink RX1 67 "TradedDesigns$Standing" "design" "J" : Cond) ∈ AW := aw_of (tb_1 (List.mem_of_getElem? (i := 87) rfl)) rfl
theorem fl_X9_120 : (.fieldLink RX9 120 "TradedDesigns$Standing" "design" "J" : Cond) ∈ AW := aw_of (tb_1 (List.mem_of_getElem? (i := 88) rfl)) rfl
theorem fl_X5_19 : (.fieldLink RX5 19 "TradedDesigns$Standing" "kept" "J" : Cond) ∈ AW := aw_of (tb_1 (List.mem_of_getElem? (i := 89) rfl)) rfl
theorem fl_X9_143 : (.fieldLink RX9 143 "TradedDesigns$Standing" "kept" "J" : Cond) ∈ AW := aw_of (tb_1 (List.mem_of_getElem? (i := 90) rfl)) rfl
theorem cl_X6_25 : (.classLink RX6 25 RX3 : Cond) ∈ AW := aw_of (tb_1 (List.mem_of_getElem? (i := 100) rfl)) rfl
theorem ib_X3 : (.instantiable RX3 3 : Cond) ∈ AW := aw_of (tb_1 (List.mem_of_getElem? (i := 101) rfl)) rfl
theorem ml_X6_27 : (.methodLink RX6 27 yX3_init : Cond) ∈ AW := aw_of (tb_1 (List.mem_of_getElem? (i := 102) rfl)) rfl
theorem im_X3_init : (.instanceMethod yX3_init : Cond) ∈ AW := aw_of (tb_1 (List.mem_of_getElem? (i := 103) rfl)) rfl
theorem co_X3_init : (.code yX3_init cX3_init 2 (Option.none : Option Jvm.ClassFile.FieldType) : Cond) ∈ AW := aw_of (tb_1 (List.mem_of_getElem? (i := 104) rfl)) rfl
theorem ml_X3_3 : (.methodLink RX3 3 objectInit : Cond) ∈ AW := aw_of (tb_1 (List.mem_of_getElem? (i := 105) rfl)) rfl
theorem ml_X3_15 : (.methodLink RX3 15 yJ9_max_7cf53 : Cond) ∈ AW := aw_of (tb_1 (List.mem_of_getElem? (i := 106) rfl)) rfl
theorem sm_J9_max_7cf53 : (.static yJ9_max_7cf53 : Cond) ∈ AW := aw_of (tb_1 (List.mem_of_getElem? (i := 107) rfl)) rfl
theorem co_J9_max_7cf53 : (.code yJ9_max_7cf53 cJ9_max_7cf53 2 (Option.some Jvm.ClassFile.FieldType.int) : Cond) ∈ AW := aw_of (tb_1 (List.mem_of_getElem? (i := 108) rfl)) rfl
theorem fl_X3_21 : (.fieldLink RX3 21 "TradedDesigns$Rows" "firsts" "[I" : Cond) ∈ AW := aw_of (tb_1 (List.mem_of_getElem? (i := 109) rfl)) rfl
theorem fl_X9_289 : (.fieldLink RX9 289 "TradedDesigns$Rows" "firsts" "[I" : Cond) ∈ AW := aw_of (tb_1 (List.mem_of_getElem? (i := 110) rfl)) rfl
theorem fl_X3_25 : (.fieldLink RX3 25 "TradedDesigns$Rows" "seconds" "[I" : Cond) ∈ AW := aw_of (tb_1 (List.mem_of_getElem? (i := 111) rfl)) rfl
theorem fl_X9_292 : (.fieldLink RX9 292 "TradedDesigns$Rows" "seconds" "[I" : Cond) ∈ AW := aw_of (tb_1 (List.mem_of_getElem? (i := 112) rfl)) rfl
theorem fl_X3_9 : (.fieldLink RX3 9 "TradedDesigns$Rows" "many" "I" : Cond) ∈ AW := aw_of (tb_1 (List.mem_of_getElem? (i := 113) rfl)) rfl
theorem fl_X9_288 : (.fieldLink RX9 288 "TradedDesigns$Rows" "many" "I" : Cond) ∈ AW := aw_of (tb_1 (List.mem_of_getElem? (i := 114) rfl)) rfl
theorem ml_X6_40 : (.methodLink RX6 40 yX0_become : Cond) ∈ AW := aw_of (tb_1 (List.mem_of_getElem? (i := 122) rfl)) rfl
theorem im_X0_become : (.instanceMethod yX0_become : Cond) ∈ AW := aw_of (tb_1 (List.mem_of_getElem? (i := 123) rfl)) rfl
theorem se_X0_become : (.selects RX0 yX0_become yX0_become : Cond) ∈ AW := aw_of (tb_1 (List.mem_of_getElem? (i := 124) rfl)) rfl
theorem co_X0_become : (.code yX0_become cX0_become 5 (Option.none : Option Jvm.ClassFile.FieldType) : Cond) ∈ AW := aw_of (tb_1 (List.mem_of_getElem? (i := 125) rfl)) rfl
theorem ml_X0_31 : (.methodLink RX0 31 yJ6_bitCount_0f7a4 : Cond) ∈ AW := aw_of (tb_1 (List.mem_of_getElem? (i := 126) rfl)) rfl
theorem sm_J6_bitCount_0f7a4 : (.static yJ6_bitCount_0f7a4 : Cond) ∈ AW := aw_of (tb_1 (List.mem_of_getElem? (i := 127) rfl)) rfl
theorem co_J6_bitCount_0f7a4 : (.code yJ6_bitCount_0f7a4 cJ6_bitCount_0f7a4 1 (Option.some Jvm.ClassFile.FieldType.int) : Cond) ∈ AW := aw_of (tb_1 (List.mem_of_getElem? (i := 128) rfl)) rfl
theorem kc_J6_265 : (.constant RJ6 265 (1431655765) : Cond) ∈ AW := aw_of (tb_1 (List.mem_of_getElem? (i := 129) rfl)) rfl
theorem kc_J6_266 : (.constant RJ6 266 (858993459) : Cond) ∈ AW := aw_of (tb_1 (List.mem_of_getElem? (i := 130) rfl)) rfl
theorem kc_J6_267 : (.constant RJ6 267 (252645135) : Cond) ∈ AW := aw_of (tb_1 (List.mem_of_getElem? (i := 131) rfl)) rfl
theorem fl_X6_10 : (.fieldLink RX6 10 "TradedDesigns$State" "blocks" "LTradedDesigns$Blocks;" : Cond) ∈ AW := aw_of (tb_1 (List.mem_of_getElem? (i := 132) rfl)) rfl
theorem fl_X9_27 : (.fieldLink RX9 27 "TradedDesigns$State" "blocks" "LTradedDesigns$Blocks;" : Cond) ∈ AW := aw_of (tb_1 (List.mem_of_getElem? (i := 133) rfl)) rfl
theorem fl_X6_21 : (.fieldLink RX6 21 "TradedDesigns$State" "standing" "LTradedDesigns$Standing;" : Cond) ∈ AW := aw_of (tb_1 (List.mem_of_getElem? (i := 134) rfl)) rfl
theorem fl_X9_83 : (.fieldLink RX9 83 "TradedDesigns$State" "standing" "LTradedDesigns$Standing;" : Cond) ∈ AW := aw_of (tb_1 (List.mem_of_getElem? (i := 135) rfl)) rfl
theorem fl_X6_30 : (.fieldLink RX6 30 "TradedDesigns$State" "seen" "LTradedDesigns$Rows;" : Cond) ∈ AW := aw_of (tb_1 (List.mem_of_getElem? (i := 136) rfl)) rfl
theorem fl_X9_277 : (.fieldLink RX9 277 "TradedDesigns$State" "seen" "LTradedDesigns$Rows;" : Cond) ∈ AW := aw_of (tb_1 (List.mem_of_getElem? (i := 137) rfl)) rfl
theorem fl_X6_34 : (.fieldLink RX6 34 "TradedDesigns$State" "events" "LTradedDesigns$Rows;" : Cond) ∈ AW := aw_of (tb_1 (List.mem_of_getElem? (i := 138) rfl)) rfl
theorem fl_X9_315 : (.fieldLink RX9 315 "TradedDesigns$State" "events" "LTradedDesigns$Rows;" : Cond) ∈ AW := aw_of (tb_1 (List.mem_of_getElem? (i := 139) rfl)) rfl
theorem fl_X6_37 : (.fieldLink RX6 37 "TradedDesigns$State" "booked" "LTradedDesigns$Rows;" : Cond) ∈ AW := aw_of (tb_1 (List.mem_of_getElem? (i := 140) rfl)) rfl
theorem fl_X9_324 : (.fieldLink RX9 324 "TradedDesigns$State" "booked" "LTradedDesigns$Rows;" : Cond) ∈ AW := aw_of (tb_1 (List.mem_of_getElem? (i := 141) rfl)) rfl
theorem cl_X9_25 : (.classLink RX9 25 RX5 : Cond) ∈ AW := aw_of (tb_1 (List.mem_of_getElem? (i := 153) rfl)) rfl
theorem ml_X9_31 : (.methodLink RX9 31 yX5_init : Cond) ∈ AW := aw_of (tb_1 (List.mem_of_getElem? (i := 154) rfl)) rfl
theorem cl_X9_38 : (.classLink RX9 38 RX8 : Cond) ∈ AW := aw_of (tb_1 (List.mem_of_getElem? (i := 155) rfl)) rfl
theorem ib_X8 : (.instantiable RX8 3 : Cond) ∈ AW := aw_of (tb_1 (List.mem_of_getElem? (i := 156) rfl)) rfl
theorem im_X8_init : (.instanceMethod yX8_init : Cond) ∈ AW := aw_of (tb_1 (List.mem_of_getElem? (i := 158) rfl)) rfl
theorem co_X8_init : (.code yX8_init cX8_init 1 (Option.none : Option Jvm.ClassFile.FieldType) : Cond) ∈ AW := aw_of (tb_1 (List.mem_of_getElem? (i := 159) rfl)) rfl
theorem ml_X8_1 : (.methodLink RX8 1 objectInit : Cond) ∈ AW := aw_of (tb_1 (List.mem_of_getElem? (i := 160) rfl)) rfl
theorem fl_X8_9 : (.fieldLink RX8 9 "TradedDesigns$Twist" "points" "[I" : Cond) ∈ AW := aw_of (tb_1 (List.mem_of_getElem? (i := 161) rfl)) rfl
theorem fl_X1_56 : (.fieldLink RX1 56 "TradedDesigns$Twist" "points" "[I" : Cond) ∈ AW := aw_of (tb_1 (List.mem_of_getElem? (i := 162) rfl)) rfl
theorem fl_X8_13 : (.fieldLink RX8 13 "TradedDesigns$Twist" "pairs" "I" : Cond) ∈ AW := aw_of (tb_1 (List.mem_of_getElem? (i := 163) rfl)) rfl
theorem fl_X1_60 : (.fieldLink RX1 60 "TradedDesigns$Twist" "pairs" "I" : Cond) ∈ AW := aw_of (tb_1 (List.mem_of_getElem? (i := 164) rfl)) rfl
theorem fl_X8_17 : (.fieldLink RX8 17 "TradedDesigns$Twist" "length" "I" : Cond) ∈ AW := aw_of (tb_1 (List.mem_of_getElem? (i := 165) rfl)) rfl
theorem fl_X1_40 : (.fieldLink RX1 40 "TradedDesigns$Twist" "length" "I" : Cond) ∈ AW := aw_of (tb_1 (List.mem_of_getElem? (i := 166) rfl)) rfl
theorem cl_X9_45 : (.classLink RX9 45 RX1 : Cond) ∈ AW := aw_of (tb_1 (List.mem_of_getElem? (i := 174) rfl)) rfl
theorem ib_X1 : (.instantiable RX1 4 : Cond) ∈ AW := aw_of (tb_1 (List.mem_of_getElem? (i := 175) rfl)) rfl
theorem im_X1_init : (.instanceMethod yX1_init : Cond) ∈ AW := aw_of (tb_1 (List.mem_of_getElem? (i := 177) rfl)) rfl
theorem co_X1_init : (.code yX1_init cX1_init 1 (Option.none : Option Jvm.ClassFile.FieldType) : Cond) ∈ AW := aw_of (tb_1 (List.mem_of_getElem? (i := 178) rfl)) rfl
theorem ml_X1_1 : (.methodLink RX1 1 objectInit : Cond) ∈ AW := aw_of (tb_1 (List.mem_of_getElem? (i := 179) rfl)) rfl
theorem cl_X1_7 : (.classLink RX1 7 RX8 : Cond) ∈ AW := aw_of (tb_1 (List.mem_of_getElem? (i := 180) rfl)) rfl
theorem fl_X1_10 : (.fieldLink RX1 10 "TradedDesigns$OpenTwists" "twist" "LTradedDesigns$Twist;" : Cond) ∈ AW := aw_of (tb_1 (List.mem_of_getElem? (i := 182) rfl)) rfl
theorem fl_X1_16 : (.fieldLink RX1 16 "TradedDesigns$OpenTwists" "found" "I" : Cond) ∈ AW := aw_of (tb_1 (List.mem_of_getElem? (i := 183) rfl)) rfl
theorem fl_X9_249 : (.fieldLink RX9 249 "TradedDesigns$OpenTwists" "found" "I" : Cond) ∈ AW := aw_of (tb_1 (List.mem_of_getElem? (i := 184) rfl)) rfl
theorem fl_X1_20 : (.fieldLink RX1 20 "TradedDesigns$OpenTwists" "firstNumber" "I" : Cond) ∈ AW := aw_of (tb_1 (List.mem_of_getElem? (i := 185) rfl)) rfl
theorem fl_X9_252 : (.fieldLink RX9 252 "TradedDesigns$OpenTwists" "firstNumber" "I" : Cond) ∈ AW := aw_of (tb_1 (List.mem_of_getElem? (i := 186) rfl)) rfl
theorem fl_X1_23 : (.fieldLink RX1 23 "TradedDesigns$OpenTwists" "firstTimes" "I" : Cond) ∈ AW := aw_of (tb_1 (List.mem_of_getElem? (i := 187) rfl)) rfl
theorem fl_X9_255 : (.fieldLink RX9 255 "TradedDesigns$OpenTwists" "firstTimes" "I" : Cond) ∈ AW := aw_of (tb_1 (List.mem_of_getElem? (i := 188) rfl)) rfl
theorem cl_X9_52 : (.classLink RX9 52 RX2 : Cond) ∈ AW := aw_of (tb_1 (List.mem_of_getElem? (i := 198) rfl)) rfl
theorem ib_X2 : (.instantiable RX2 8 : Cond) ∈ AW := aw_of (tb_1 (List.mem_of_getElem? (i := 199) rfl)) rfl
theorem im_X2_init : (.instanceMethod yX2_init : Cond) ∈ AW := aw_of (tb_1 (List.mem_of_getElem? (i := 201) rfl)) rfl
theorem co_X2_init : (.code yX2_init cX2_init 1 (Option.none : Option Jvm.ClassFile.FieldType) : Cond) ∈ AW := aw_of (tb_1 (List.mem_of_getElem? (i := 202) rfl)) rfl
theorem ml_X2_3 : (.methodLink RX2 3 objectInit : Cond) ∈ AW := aw_of (tb_1 (List.mem_of_getElem? (i := 203) rfl)) rfl
theorem fl_X2_9 : (.fieldLink RX2 9 "TradedDesigns$Parting" "ways" "I" : Cond) ∈ AW := aw_of (tb_1 (List.mem_of_getElem? (i := 204) rfl)) rfl
theorem fl_X9_268 : (.fieldLink RX9 268 "TradedDesigns$Parting" "ways" "I" : Cond) ∈ AW := aw_of (tb_1 (List.mem_of_getElem? (i := 205) rfl)) rfl
theorem fl_X2_15 : (.fieldLink RX2 15 "TradedDesigns$Parting" "lookedFor" "I" : Cond) ∈ AW := aw_of (tb_1 (List.mem_of_getElem? (i := 206) rfl)) rfl
theorem fl_X2_18 : (.fieldLink RX2 18 "TradedDesigns$Parting" "parts" "I" : Cond) ∈ AW := aw_of (tb_1 (List.mem_of_getElem? (i := 207) rfl)) rfl
theorem fl_X2_21 : (.fieldLink RX2 21 "TradedDesigns$Parting" "many" "I" : Cond) ∈ AW := aw_of (tb_1 (List.mem_of_getElem? (i := 208) rfl)) rfl
theorem fl_X2_24 : (.fieldLink RX2 24 "TradedDesigns$Parting" "steps" "[J" : Cond) ∈ AW := aw_of (tb_1 (List.mem_of_getElem? (i := 209) rfl)) rfl
theorem fl_X2_28 : (.fieldLink RX2 28 "TradedDesigns$Parting" "tallies" "[J" : Cond) ∈ AW := aw_of (tb_1 (List.mem_of_getElem? (i := 210) rfl)) rfl
theorem fl_X2_31 : (.fieldLink RX2 31 "TradedDesigns$Parting" "way" "[I" : Cond) ∈ AW := aw_of (tb_1 (List.mem_of_getElem? (i := 211) rfl)) rfl
theorem fl_X2_35 : (.fieldLink RX2 35 "TradedDesigns$Parting" "firstWay" "[I" : Cond) ∈ AW := aw_of (tb_1 (List.mem_of_getElem? (i := 212) rfl)) rfl
theorem ac_long : (.arrayClass Jvm.ClassFile.FieldType.long : Cond) ∈ AW := aw_of (tb_1 (List.mem_of_getElem? (i := 230) rfl)) rfl
theorem cl_X9_59 : (.classLink RX9 59 RX4 : Cond) ∈ AW := aw_of (tb_1 (List.mem_of_getElem? (i := 231) rfl)) rfl
theorem ib_X4 : (.instantiable RX4 6 : Cond) ∈ AW := aw_of (tb_1 (List.mem_of_getElem? (i := 232) rfl)) rfl
theorem im_X4_init : (.instanceMethod yX4_init : Cond) ∈ AW := aw_of (tb_1 (List.mem_of_getElem? (i := 234) rfl)) rfl
theorem co_X4_init : (.code yX4_init cX4_init 1 (Option.none : Option Jvm.ClassFile.FieldType) : Cond) ∈ AW := aw_of (tb_1 (List.mem_of_getElem? (i := 235) rfl)) rfl
theorem ml_X4_1 : (.methodLink RX4 1 objectInit : Cond) ∈ AW := aw_of (tb_1 (List.mem_of_getElem? (i := 236) rfl)) rfl
theorem fl_X4_9 : (.fieldLink RX4 9 "TradedDesigns$SetUp" "text" "[I" : Cond) ∈ AW := aw_of (tb_1 (List.mem_of_getElem? (i := 237) rfl)) rfl
theorem fl_X4_13 : (.fieldLink RX4 13 "TradedDesigns$SetUp" "length" "I" : Cond) ∈ AW := aw_of (tb_1 (List.mem_of_getElem? (i := 238) rfl)) rfl
theorem fl_X9_159 : (.fieldLink RX9 159 "TradedDesigns$SetUp" "length" "I" : Cond) ∈ AW := aw_of (tb_1 (List.mem_of_getElem? (i := 239) rfl)) rfl
theorem fl_X4_17 : (.fieldLink RX4 17 "TradedDesigns$SetUp" "words" "[I" : Cond) ∈ AW := aw_of (tb_2 (List.mem_of_getElem? (i := 0) rfl)) rfl
theorem fl_X9_169 : (.fieldLink RX9 169 "TradedDesigns$SetUp" "words" "[I" : Cond) ∈ AW := aw_of (tb_2 (List.mem_of_getElem? (i := 1) rfl)) rfl
theorem fl_X4_20 : (.fieldLink RX4 20 "TradedDesigns$SetUp" "numbers" "[I" : Cond) ∈ AW := aw_of (tb_2 (List.mem_of_getElem? (i := 2) rfl)) rfl
theorem fl_X4_23 : (.fieldLink RX4 23 "TradedDesigns$SetUp" "clauses" "I" : Cond) ∈ AW := aw_of (tb_2 (List.mem_of_getElem? (i := 3) rfl)) rfl
theorem fl_X9_166 : (.fieldLink RX9 166 "TradedDesigns$SetUp" "clauses" "I" : Cond) ∈ AW := aw_of (tb_2 (List.mem_of_getElem? (i := 4) rfl)) rfl
theorem fl_X4_26 : (.fieldLink RX4 26 "TradedDesigns$SetUp" "at" "I" : Cond) ∈ AW := aw_of (tb_2 (List.mem_of_getElem? (i := 5) rfl)) rfl
theorem cl_X9_66 : (.classLink RX9 66 RX7 : Cond) ∈ AW := aw_of (tb_2 (List.mem_of_getElem? (i := 19) rfl)) rfl
theorem ib_X7 : (.instantiable RX7 3 : Cond) ∈ AW := aw_of (tb_2 (List.mem_of_getElem? (i := 21) rfl)) rfl
theorem im_X7_init : (.instanceMethod yX7_init : Cond) ∈ AW := aw_of (tb_2 (List.mem_of_getElem? (i := 23) rfl)) rfl
theorem co_X7_init : (.code yX7_init cX7_init 1 (Option.none : Option Jvm.ClassFile.FieldType) : Cond) ∈ AW := aw_of (tb_2 (List.mem_of_getElem? (i := 24) rfl)) rfl
theorem ml_X7_1 : (.methodLink RX7 1 objectInit : Cond) ∈ AW := aw_of (tb_2 (List.mem_of_getElem? (i := 25) rfl)) rfl
theorem fl_X7_9 : (.fieldLink RX7 9 "TradedDesigns$Tape" "sort" "I" : Cond) ∈ AW := aw_of (tb_2 (List.mem_of_getElem? (i := 26) rfl)) rfl
theorem fl_X9_333 : (.fieldLink RX9 333 "TradedDesigns$Tape" "sort" "I" : Cond) ∈ AW := aw_of (tb_2 (List.mem_of_getElem? (i := 27) rfl)) rfl
theorem fl_X7_13 : (.fieldLink RX7 13 "TradedDesigns$Tape" "length" "I" : Cond) ∈ AW := aw_of (tb_2 (List.mem_of_getElem? (i := 28) rfl)) rfl
theorem fl_X9_336 : (.fieldLink RX9 336 "TradedDesigns$Tape" "length" "I" : Cond) ∈ AW := aw_of (tb_2 (List.mem_of_getElem? (i := 29) rfl)) rfl
theorem fl_X7_16 : (.fieldLink RX7 16 "TradedDesigns$Tape" "items" "[J" : Cond) ∈ AW := aw_of (tb_2 (List.mem_of_getElem? (i := 30) rfl)) rfl
theorem fl_X9_337 : (.fieldLink RX9 337 "TradedDesigns$Tape" "items" "[J" : Cond) ∈ AW := aw_of (tb_2 (List.mem_of_getElem? (i := 31) rfl)) rfl
theorem fl_X9_12 : (.fieldLink RX9 12 "TradedDesigns" "now" "LTradedDesigns$State;" : Cond) ∈ AW := aw_of (tb_2 (List.mem_of_getElem? (i := 39) rfl)) rfl
theorem fl_X9_18 : (.fieldLink RX9 18 "TradedDesigns" "image" "LTradedDesigns$State;" : Cond) ∈ AW := aw_of (tb_2 (List.mem_of_getElem? (i := 40) rfl)) rfl
theorem fl_X9_21 : (.fieldLink RX9 21 "TradedDesigns" "imageTaken" "Z" : Cond) ∈ AW := aw_of (tb_2 (List.mem_of_getElem? (i := 41) rfl)) rfl
theorem fl_X9_34 : (.fieldLink RX9 34 "TradedDesigns" "later" "LTradedDesigns$Standing;" : Cond) ∈ AW := aw_of (tb_2 (List.mem_of_getElem? (i := 42) rfl)) rfl
theorem fl_X9_41 : (.fieldLink RX9 41 "TradedDesigns" "twisting" "LTradedDesigns$Twist;" : Cond) ∈ AW := aw_of (tb_2 (List.mem_of_getElem? (i := 43) rfl)) rfl
theorem fl_X9_48 : (.fieldLink RX9 48 "TradedDesigns" "openTwists" "LTradedDesigns$OpenTwists;" : Cond) ∈ AW := aw_of (tb_2 (List.mem_of_getElem? (i := 44) rfl)) rfl
theorem fl_X9_55 : (.fieldLink RX9 55 "TradedDesigns" "parting" "LTradedDesigns$Parting;" : Cond) ∈ AW := aw_of (tb_2 (List.mem_of_getElem? (i := 45) rfl)) rfl
theorem fl_X9_62 : (.fieldLink RX9 62 "TradedDesigns" "setUp" "LTradedDesigns$SetUp;" : Cond) ∈ AW := aw_of (tb_2 (List.mem_of_getElem? (i := 46) rfl)) rfl
theorem fl_X9_68 : (.fieldLink RX9 68 "TradedDesigns" "tapes" "[LTradedDesigns$Tape;" : Cond) ∈ AW := aw_of (tb_2 (List.mem_of_getElem? (i := 47) rfl)) rfl
theorem ml_L_13 : (.methodLink RL 13 yX9_size : Cond) ∈ AW := aw_of (tb_2 (List.mem_of_getElem? (i := 67) rfl)) rfl
theorem im_X9_size : (.instanceMethod yX9_size : Cond) ∈ AW := aw_of (tb_2 (List.mem_of_getElem? (i := 68) rfl)) rfl
theorem se_X9_size : (.selects RX9 yX9_size yX9_size : Cond) ∈ AW := aw_of (tb_2 (List.mem_of_getElem? (i := 69) rfl)) rfl
theorem co_X9_size : (.code yX9_size cX9_size 5 (Option.some Jvm.ClassFile.FieldType.int) : Cond) ∈ AW := aw_of (tb_2 (List.mem_of_getElem? (i := 70) rfl)) rfl
theorem ml_X9_73 : (.methodLink RX9 73 yX0_sizes : Cond) ∈ AW := aw_of (tb_2 (List.mem_of_getElem? (i := 71) rfl)) rfl
theorem im_X0_sizes : (.instanceMethod yX0_sizes : Cond) ∈ AW := aw_of (tb_2 (List.mem_of_getElem? (i := 72) rfl)) rfl
theorem se_X0_sizes : (.selects RX0 yX0_sizes yX0_sizes : Cond) ∈ AW := aw_of (tb_2 (List.mem_of_getElem? (i := 73) rfl)) rfl
theorem co_X0_sizes : (.code yX0_sizes cX0_sizes 1 (Option.some Jvm.ClassFile.FieldType.int) : Cond) ∈ AW := aw_of (tb_2 (List.mem_of_getElem? (i := 74) rfl)) rfl
theorem ml_X9_79 : (.methodLink RX9 79 yX0_become : Cond) ∈ AW := aw_of (tb_2 (List.mem_of_getElem? (i := 75) rfl)) rfl
theorem ml_X9_86 : (.methodLink RX9 86 yX5_becomeEmpty : Cond) ∈ AW := aw_of (tb_2 (List.mem_of_getElem? (i := 76) rfl)) rfl
theorem im_X5_becomeEmpty : (.instanceMethod yX5_becomeEmpty : Cond) ∈ AW := aw_of (tb_2 (List.mem_of_getElem? (i := 77) rfl)) rfl
theorem se_X5_becomeEmpty : (.selects RX5 yX5_becomeEmpty yX5_becomeEmpty : Cond) ∈ AW := aw_of (tb_2 (List.mem_of_getElem? (i := 78) rfl)) rfl
theorem co_X5_becomeEmpty : (.code yX5_becomeEmpty cX5_becomeEmpty 1 (Option.none : Option Jvm.ClassFile.FieldType) : Cond) ∈ AW := aw_of (tb_2 (List.mem_of_getElem? (i := 79) rfl)) rfl
theorem ml_X5_26 : (.methodLink RX5 26 yX5_clearCounts : Cond) ∈ AW := aw_of (tb_2 (List.mem_of_getElem? (i := 80) rfl)) rfl
theorem im_X5_clearCounts : (.instanceMethod yX5_clearCounts : Cond) ∈ AW := aw_of (tb_2 (List.mem_of_getElem? (i := 81) rfl)) rfl
theorem se_X5_clearCounts : (.selects RX5 yX5_clearCounts yX5_clearCounts : Cond) ∈ AW := aw_of (tb_2 (List.mem_of_getElem? (i := 82) rfl)) rfl
theorem co_X5_clearCounts : (.code yX5_clearCounts cX5_clearCounts 2 (Option.none : Option Jvm.ClassFile.FieldType) : Cond) ∈ AW := aw_of (tb_2 (List.mem_of_getElem? (i := 83) rfl)) rfl
theorem ml_L_18 : (.methodLink RL 18 yX9_count : Cond) ∈ AW := aw_of (tb_2 (List.mem_of_getElem? (i := 84) rfl)) rfl
theorem im_X9_count : (.instanceMethod yX9_count : Cond) ∈ AW := aw_of (tb_2 (List.mem_of_getElem? (i := 85) rfl)) rfl
theorem se_X9_count : (.selects RX9 yX9_count yX9_count : Cond) ∈ AW := aw_of (tb_2 (List.mem_of_getElem? (i := 86) rfl)) rfl
theorem co_X9_count : (.code yX9_count cX9_count 4 (Option.some Jvm.ClassFile.FieldType.int) : Cond) ∈ AW := aw_of (tb_2 (List.mem_of_getElem? (i := 87) rfl)) rfl
theorem ml_X9_89 : (.methodLink RX9 89 yX0_has : Cond) ∈ AW := aw_of (tb_2 (List.mem_of_getElem? (i := 88) rfl)) rfl
theorem im_X0_has : (.instanceMethod yX0_has : Cond) ∈ AW := aw_of (tb_2 (List.mem_of_getElem? (i := 89) rfl)) rfl
theorem se_X0_has : (.selects RX0 yX0_has yX0_has : Cond) ∈ AW := aw_of (tb_2 (List.mem_of_getElem? (i := 90) rfl)) rfl
theorem co_X0_has : (.code yX0_has cX0_has 2 (Option.some Jvm.ClassFile.FieldType.boolean) : Cond) ∈ AW := aw_of (tb_2 (List.mem_of_getElem? (i := 91) rfl)) rfl
theorem ml_X9_93 : (.methodLink RX9 93 yX9_isCount : Cond) ∈ AW := aw_of (tb_2 (List.mem_of_getElem? (i := 92) rfl)) rfl
theorem sm_X9_isCount : (.static yX9_isCount : Cond) ∈ AW := aw_of (tb_2 (List.mem_of_getElem? (i := 93) rfl)) rfl
theorem co_X9_isCount : (.code yX9_isCount cX9_isCount 1 (Option.some Jvm.ClassFile.FieldType.boolean) : Cond) ∈ AW := aw_of (tb_2 (List.mem_of_getElem? (i := 94) rfl)) rfl
theorem ml_L_23 : (.methodLink RL 23 yX9_twist : Cond) ∈ AW := aw_of (tb_2 (List.mem_of_getElem? (i := 95) rfl)) rfl
theorem im_X9_twist : (.instanceMethod yX9_twist : Cond) ∈ AW := aw_of (tb_2 (List.mem_of_getElem? (i := 96) rfl)) rfl
theorem se_X9_twist : (.selects RX9 yX9_twist yX9_twist : Cond) ∈ AW := aw_of (tb_2 (List.mem_of_getElem? (i := 97) rfl)) rfl
theorem co_X9_twist : (.code yX9_twist cX9_twist 3 (Option.some Jvm.ClassFile.FieldType.int) : Cond) ∈ AW := aw_of (tb_2 (List.mem_of_getElem? (i := 98) rfl)) rfl
theorem ml_X9_100 : (.methodLink RX9 100 yX8_take : Cond) ∈ AW := aw_of (tb_2 (List.mem_of_getElem? (i := 99) rfl)) rfl
theorem im_X8_take : (.instanceMethod yX8_take : Cond) ∈ AW := aw_of (tb_2 (List.mem_of_getElem? (i := 100) rfl)) rfl
theorem se_X8_take : (.selects RX8 yX8_take yX8_take : Cond) ∈ AW := aw_of (tb_2 (List.mem_of_getElem? (i := 101) rfl)) rfl
theorem co_X8_take : (.code yX8_take cX8_take 7 (Option.some Jvm.ClassFile.FieldType.boolean) : Cond) ∈ AW := aw_of (tb_2 (List.mem_of_getElem? (i := 102) rfl)) rfl
theorem ml_X8_34 : (.methodLink RX8 34 yX8_becomeFor : Cond) ∈ AW := aw_of (tb_2 (List.mem_of_getElem? (i := 103) rfl)) rfl
theorem im_X8_becomeFor : (.instanceMethod yX8_becomeFor : Cond) ∈ AW := aw_of (tb_2 (List.mem_of_getElem? (i := 104) rfl)) rfl
theorem se_X8_becomeFor : (.selects RX8 yX8_becomeFor yX8_becomeFor : Cond) ∈ AW := aw_of (tb_2 (List.mem_of_getElem? (i := 105) rfl)) rfl
theorem co_X8_becomeFor : (.code yX8_becomeFor cX8_becomeFor 2 (Option.none : Option Jvm.ClassFile.FieldType) : Cond) ∈ AW := aw_of (tb_2 (List.mem_of_getElem? (i := 106) rfl)) rfl
theorem ml_X8_28 : (.methodLink RX8 28 yJ9_min_7cf53 : Cond) ∈ AW := aw_of (tb_2 (List.mem_of_getElem? (i := 107) rfl)) rfl
theorem sm_J9_min_7cf53 : (.static yJ9_min_7cf53 : Cond) ∈ AW := aw_of (tb_2 (List.mem_of_getElem? (i := 108) rfl)) rfl
theorem co_J9_min_7cf53 : (.code yJ9_min_7cf53 cJ9_min_7cf53 2 (Option.some Jvm.ClassFile.FieldType.int) : Cond) ∈ AW := aw_of (tb_2 (List.mem_of_getElem? (i := 109) rfl)) rfl
theorem ml_X8_38 : (.methodLink RX8 38 yX0_hasPoint : Cond) ∈ AW := aw_of (tb_2 (List.mem_of_getElem? (i := 110) rfl)) rfl
theorem im_X0_hasPoint : (.instanceMethod yX0_hasPoint : Cond) ∈ AW := aw_of (tb_2 (List.mem_of_getElem? (i := 111) rfl)) rfl
theorem se_X0_hasPoint : (.selects RX0 yX0_hasPoint yX0_hasPoint : Cond) ∈ AW := aw_of (tb_2 (List.mem_of_getElem? (i := 112) rfl)) rfl
theorem co_X0_hasPoint : (.code yX0_hasPoint cX0_hasPoint 2 (Option.some Jvm.ClassFile.FieldType.boolean) : Cond) ∈ AW := aw_of (tb_2 (List.mem_of_getElem? (i := 113) rfl)) rfl
theorem ml_X9_104 : (.methodLink RX9 104 yX5_addTwist : Cond) ∈ AW := aw_of (tb_2 (List.mem_of_getElem? (i := 114) rfl)) rfl
theorem im_X5_addTwist : (.instanceMethod yX5_addTwist : Cond) ∈ AW := aw_of (tb_2 (List.mem_of_getElem? (i := 115) rfl)) rfl
theorem se_X5_addTwist : (.selects RX5 yX5_addTwist yX5_addTwist : Cond) ∈ AW := aw_of (tb_2 (List.mem_of_getElem? (i := 116) rfl)) rfl
theorem co_X5_addTwist : (.code yX5_addTwist cX5_addTwist 5 (Option.some Jvm.ClassFile.FieldType.boolean) : Cond) ∈ AW := aw_of (tb_2 (List.mem_of_getElem? (i := 117) rfl)) rfl
theorem ml_X5_41 : (.methodLink RX5 41 yX8_choices : Cond) ∈ AW := aw_of (tb_2 (List.mem_of_getElem? (i := 118) rfl)) rfl
theorem im_X8_choices : (.instanceMethod yX8_choices : Cond) ∈ AW := aw_of (tb_2 (List.mem_of_getElem? (i := 119) rfl)) rfl
theorem se_X8_choices : (.selects RX8 yX8_choices yX8_choices : Cond) ∈ AW := aw_of (tb_2 (List.mem_of_getElem? (i := 120) rfl)) rfl
theorem co_X8_choices : (.code yX8_choices cX8_choices 1 (Option.some Jvm.ClassFile.FieldType.int) : Cond) ∈ AW := aw_of (tb_2 (List.mem_of_getElem? (i := 121) rfl)) rfl
theorem ml_X5_47 : (.methodLink RX5 47 yX8_blockOf : Cond) ∈ AW := aw_of (tb_2 (List.mem_of_getElem? (i := 122) rfl)) rfl
theorem im_X8_blockOf : (.instanceMethod yX8_blockOf : Cond) ∈ AW := aw_of (tb_2 (List.mem_of_getElem? (i := 123) rfl)) rfl
theorem se_X8_blockOf : (.selects RX8 yX8_blockOf yX8_blockOf : Cond) ∈ AW := aw_of (tb_2 (List.mem_of_getElem? (i := 124) rfl)) rfl
theorem co_X8_blockOf : (.code yX8_blockOf cX8_blockOf 5 (Option.some Jvm.ClassFile.FieldType.int) : Cond) ∈ AW := aw_of (tb_2 (List.mem_of_getElem? (i := 125) rfl)) rfl
theorem ml_X8_42 : (.methodLink RX8 42 yX0_numberOf : Cond) ∈ AW := aw_of (tb_2 (List.mem_of_getElem? (i := 126) rfl)) rfl
theorem im_X0_numberOf : (.instanceMethod yX0_numberOf : Cond) ∈ AW := aw_of (tb_2 (List.mem_of_getElem? (i := 127) rfl)) rfl
theorem se_X0_numberOf : (.selects RX0 yX0_numberOf yX0_numberOf : Cond) ∈ AW := aw_of (tb_2 (List.mem_of_getElem? (i := 128) rfl)) rfl
theorem co_X0_numberOf : (.code yX0_numberOf cX0_numberOf 2 (Option.some Jvm.ClassFile.FieldType.int) : Cond) ∈ AW := aw_of (tb_2 (List.mem_of_getElem? (i := 129) rfl)) rfl
theorem ml_X5_51 : (.methodLink RX5 51 yX0_has : Cond) ∈ AW := aw_of (tb_2 (List.mem_of_getElem? (i := 130) rfl)) rfl
theorem ml_X5_55 : (.methodLink RX5 55 yX8_signOf : Cond) ∈ AW := aw_of (tb_2 (List.mem_of_getElem? (i := 131) rfl)) rfl
theorem sm_X8_signOf : (.static yX8_signOf : Cond) ∈ AW := aw_of (tb_2 (List.mem_of_getElem? (i := 132) rfl)) rfl
theorem co_X8_signOf : (.code yX8_signOf cX8_signOf 1 (Option.some Jvm.ClassFile.FieldType.int) : Cond) ∈ AW := aw_of (tb_2 (List.mem_of_getElem? (i := 133) rfl)) rfl
theorem ml_X8_46 : (.methodLink RX8 46 yJ6_bitCount_0f7a4 : Cond) ∈ AW := aw_of (tb_2 (List.mem_of_getElem? (i := 134) rfl)) rfl
theorem ml_X9_108 : (.methodLink RX9 108 yX5_volume : Cond) ∈ AW := aw_of (tb_2 (List.mem_of_getElem? (i := 136) rfl)) rfl
theorem im_X5_volume : (.instanceMethod yX5_volume : Cond) ∈ AW := aw_of (tb_2 (List.mem_of_getElem? (i := 137) rfl)) rfl
theorem se_X5_volume : (.selects RX5 yX5_volume yX5_volume : Cond) ∈ AW := aw_of (tb_2 (List.mem_of_getElem? (i := 138) rfl)) rfl
theorem co_X5_volume : (.code yX5_volume cX5_volume 3 (Option.some Jvm.ClassFile.FieldType.int) : Cond) ∈ AW := aw_of (tb_2 (List.mem_of_getElem? (i := 139) rfl)) rfl
theorem ml_X5_84 : (.methodLink RX5 84 yJ9_max_7cf53 : Cond) ∈ AW := aw_of (tb_2 (List.mem_of_getElem? (i := 140) rfl)) rfl
theorem ml_L_27 : (.methodLink RL 27 yX9_turn : Cond) ∈ AW := aw_of (tb_2 (List.mem_of_getElem? (i := 141) rfl)) rfl
theorem im_X9_turn : (.instanceMethod yX9_turn : Cond) ∈ AW := aw_of (tb_2 (List.mem_of_getElem? (i := 142) rfl)) rfl
theorem se_X9_turn : (.selects RX9 yX9_turn yX9_turn : Cond) ∈ AW := aw_of (tb_2 (List.mem_of_getElem? (i := 143) rfl)) rfl
theorem co_X9_turn : (.code yX9_turn cX9_turn 1 (Option.some Jvm.ClassFile.FieldType.int) : Cond) ∈ AW := aw_of (tb_2 (List.mem_of_getElem? (i := 144) rfl)) rfl
theorem ml_X9_111 : (.methodLink RX9 111 yX5_changeSigns : Cond) ∈ AW := aw_of (tb_2 (List.mem_of_getElem? (i := 145) rfl)) rfl
theorem im_X5_changeSigns : (.instanceMethod yX5_changeSigns : Cond) ∈ AW := aw_of (tb_2 (List.mem_of_getElem? (i := 146) rfl)) rfl
theorem se_X5_changeSigns : (.selects RX5 yX5_changeSigns yX5_changeSigns : Cond) ∈ AW := aw_of (tb_2 (List.mem_of_getElem? (i := 147) rfl)) rfl
theorem co_X5_changeSigns : (.code yX5_changeSigns cX5_changeSigns 2 (Option.none : Option Jvm.ClassFile.FieldType) : Cond) ∈ AW := aw_of (tb_2 (List.mem_of_getElem? (i := 148) rfl)) rfl
theorem ml_L_32 : (.methodLink RL 32 yX9_clear : Cond) ∈ AW := aw_of (tb_2 (List.mem_of_getElem? (i := 149) rfl)) rfl
theorem im_X9_clear : (.instanceMethod yX9_clear : Cond) ∈ AW := aw_of (tb_2 (List.mem_of_getElem? (i := 150) rfl)) rfl
theorem se_X9_clear : (.selects RX9 yX9_clear yX9_clear : Cond) ∈ AW := aw_of (tb_2 (List.mem_of_getElem? (i := 151) rfl)) rfl
theorem co_X9_clear : (.code yX9_clear cX9_clear 2 (Option.some Jvm.ClassFile.FieldType.int) : Cond) ∈ AW := aw_of (tb_2 (List.mem_of_getElem? (i := 152) rfl)) rfl
theorem ml_X9_114 : (.methodLink RX9 114 yX5_countsNotZero : Cond) ∈ AW := aw_of (tb_2 (List.mem_of_getElem? (i := 153) rfl)) rfl
theorem im_X5_countsNotZero : (.instanceMethod yX5_countsNotZero : Cond) ∈ AW := aw_of (tb_2 (List.mem_of_getElem? (i := 154) rfl)) rfl
theorem se_X5_countsNotZero : (.selects RX5 yX5_countsNotZero yX5_countsNotZero : Cond) ∈ AW := aw_of (tb_2 (List.mem_of_getElem? (i := 155) rfl)) rfl
theorem co_X5_countsNotZero : (.code yX5_countsNotZero cX5_countsNotZero 3 (Option.some Jvm.ClassFile.FieldType.int) : Cond) ∈ AW := aw_of (tb_2 (List.mem_of_getElem? (i := 156) rfl)) rfl
theorem ml_X9_117 : (.methodLink RX9 117 yX5_clearCounts : Cond) ∈ AW := aw_of (tb_2 (List.mem_of_getElem? (i := 157) rfl)) rfl
theorem ml_L_36 : (.methodLink RL 36 yX9_put : Cond) ∈ AW := aw_of (tb_2 (List.mem_of_getElem? (i := 158) rfl)) rfl
theorem im_X9_put : (.instanceMethod yX9_put : Cond) ∈ AW := aw_of (tb_2 (List.mem_of_getElem? (i := 159) rfl)) rfl
theorem se_X9_put : (.selects RX9 yX9_put yX9_put : Cond) ∈ AW := aw_of (tb_2 (List.mem_of_getElem? (i := 160) rfl)) rfl
theorem co_X9_put : (.code yX9_put cX9_put 4 (Option.some Jvm.ClassFile.FieldType.int) : Cond) ∈ AW := aw_of (tb_2 (List.mem_of_getElem? (i := 161) rfl)) rfl
theorem ml_X9_124 : (.methodLink RX9 124 yX9_isIn : Cond) ∈ AW := aw_of (tb_2 (List.mem_of_getElem? (i := 162) rfl)) rfl
theorem sm_X9_isIn : (.static yX9_isIn : Cond) ∈ AW := aw_of (tb_2 (List.mem_of_getElem? (i := 163) rfl)) rfl
theorem co_X9_isIn : (.code yX9_isIn cX9_isIn 3 (Option.some Jvm.ClassFile.FieldType.boolean) : Cond) ∈ AW := aw_of (tb_2 (List.mem_of_getElem? (i := 164) rfl)) rfl
theorem ml_X9_128 : (.methodLink RX9 128 yX5_toggle : Cond) ∈ AW := aw_of (tb_2 (List.mem_of_getElem? (i := 165) rfl)) rfl
theorem im_X5_toggle : (.instanceMethod yX5_toggle : Cond) ∈ AW := aw_of (tb_2 (List.mem_of_getElem? (i := 166) rfl)) rfl
theorem se_X5_toggle : (.selects RX5 yX5_toggle yX5_toggle : Cond) ∈ AW := aw_of (tb_2 (List.mem_of_getElem? (i := 167) rfl)) rfl
theorem co_X5_toggle : (.code yX5_toggle cX5_toggle 2 (Option.none : Option Jvm.ClassFile.FieldType) : Cond) ∈ AW := aw_of (tb_2 (List.mem_of_getElem? (i := 168) rfl)) rfl
theorem ml_L_40 : (.methodLink RL 40 yX9_swap : Cond) ∈ AW := aw_of (tb_2 (List.mem_of_getElem? (i := 169) rfl)) rfl
theorem im_X9_swap : (.instanceMethod yX9_swap : Cond) ∈ AW := aw_of (tb_2 (List.mem_of_getElem? (i := 170) rfl)) rfl
theorem se_X9_swap : (.selects RX9 yX9_swap yX9_swap : Cond) ∈ AW := aw_of (tb_2 (List.mem_of_getElem? (i := 171) rfl)) rfl
theorem co_X9_swap : (.code yX9_swap cX9_swap 1 (Option.some Jvm.ClassFile.FieldType.int) : Cond) ∈ AW := aw_of (tb_2 (List.mem_of_getElem? (i := 172) rfl)) rfl
theorem ml_X9_132 : (.methodLink RX9 132 yX5_mayBeSwapped : Cond) ∈ AW := aw_of (tb_2 (List.mem_of_getElem? (i := 173) rfl)) rfl
theorem im_X5_mayBeSwapped : (.instanceMethod yX5_mayBeSwapped : Cond) ∈ AW := aw_of (tb_2 (List.mem_of_getElem? (i := 174) rfl)) rfl
theorem se_X5_mayBeSwapped : (.selects RX5 yX5_mayBeSwapped yX5_mayBeSwapped : Cond) ∈ AW := aw_of (tb_2 (List.mem_of_getElem? (i := 175) rfl)) rfl
theorem co_X5_mayBeSwapped : (.code yX5_mayBeSwapped cX5_mayBeSwapped 4 (Option.some Jvm.ClassFile.FieldType.boolean) : Cond) ∈ AW := aw_of (tb_2 (List.mem_of_getElem? (i := 176) rfl)) rfl
theorem ml_X5_76 : (.methodLink RX5 76 yX5_isTrade : Cond) ∈ AW := aw_of (tb_2 (List.mem_of_getElem? (i := 178) rfl)) rfl
theorem im_X5_isTrade : (.instanceMethod yX5_isTrade : Cond) ∈ AW := aw_of (tb_2 (List.mem_of_getElem? (i := 179) rfl)) rfl
theorem se_X5_isTrade : (.selects RX5 yX5_isTrade yX5_isTrade : Cond) ∈ AW := aw_of (tb_2 (List.mem_of_getElem? (i := 180) rfl)) rfl
theorem co_X5_isTrade : (.code yX5_isTrade cX5_isTrade 1 (Option.some Jvm.ClassFile.FieldType.boolean) : Cond) ∈ AW := aw_of (tb_2 (List.mem_of_getElem? (i := 181) rfl)) rfl
theorem ml_X5_93 : (.methodLink RX5 93 yX5_firstAmiss : Cond) ∈ AW := aw_of (tb_2 (List.mem_of_getElem? (i := 182) rfl)) rfl
theorem im_X5_firstAmiss : (.instanceMethod yX5_firstAmiss : Cond) ∈ AW := aw_of (tb_2 (List.mem_of_getElem? (i := 183) rfl)) rfl
theorem se_X5_firstAmiss : (.selects RX5 yX5_firstAmiss yX5_firstAmiss : Cond) ∈ AW := aw_of (tb_2 (List.mem_of_getElem? (i := 184) rfl)) rfl
theorem co_X5_firstAmiss : (.code yX5_firstAmiss cX5_firstAmiss 5 (Option.some Jvm.ClassFile.FieldType.int) : Cond) ∈ AW := aw_of (tb_2 (List.mem_of_getElem? (i := 185) rfl)) rfl
theorem ml_X5_99 : (.methodLink RX5 99 yJ6_bitCount_0f7a4 : Cond) ∈ AW := aw_of (tb_2 (List.mem_of_getElem? (i := 186) rfl)) rfl
theorem ml_X5_104 : (.methodLink RX5 104 yX5_sumOf : Cond) ∈ AW := aw_of (tb_2 (List.mem_of_getElem? (i := 187) rfl)) rfl
theorem im_X5_sumOf : (.instanceMethod yX5_sumOf : Cond) ∈ AW := aw_of (tb_2 (List.mem_of_getElem? (i := 188) rfl)) rfl
theorem se_X5_sumOf : (.selects RX5 yX5_sumOf yX5_sumOf : Cond) ∈ AW := aw_of (tb_2 (List.mem_of_getElem? (i := 189) rfl)) rfl
theorem co_X5_sumOf : (.code yX5_sumOf cX5_sumOf 4 (Option.some Jvm.ClassFile.FieldType.int) : Cond) ∈ AW := aw_of (tb_2 (List.mem_of_getElem? (i := 190) rfl)) rfl
theorem ml_X9_136 : (.methodLink RX9 136 yX5_swapByRow : Cond) ∈ AW := aw_of (tb_2 (List.mem_of_getElem? (i := 191) rfl)) rfl
theorem im_X5_swapByRow : (.instanceMethod yX5_swapByRow : Cond) ∈ AW := aw_of (tb_2 (List.mem_of_getElem? (i := 192) rfl)) rfl
theorem se_X5_swapByRow : (.selects RX5 yX5_swapByRow yX5_swapByRow : Cond) ∈ AW := aw_of (tb_2 (List.mem_of_getElem? (i := 193) rfl)) rfl
theorem co_X5_swapByRow : (.code yX5_swapByRow cX5_swapByRow 2 (Option.none : Option Jvm.ClassFile.FieldType) : Cond) ∈ AW := aw_of (tb_2 (List.mem_of_getElem? (i := 194) rfl)) rfl
theorem ml_X5_80 : (.methodLink RX5 80 yX5_toggle : Cond) ∈ AW := aw_of (tb_2 (List.mem_of_getElem? (i := 195) rfl)) rfl
theorem ml_X9_139 : (.methodLink RX9 139 yJ13_bitCount_95d88 : Cond) ∈ AW := aw_of (tb_2 (List.mem_of_getElem? (i := 196) rfl)) rfl
theorem sm_J13_bitCount_95d88 : (.static yJ13_bitCount_95d88 : Cond) ∈ AW := aw_of (tb_2 (List.mem_of_getElem? (i := 197) rfl)) rfl
theorem co_J13_bitCount_95d88 : (.code yJ13_bitCount_95d88 cJ13_bitCount_95d88 2 (Option.some Jvm.ClassFile.FieldType.int) : Cond) ∈ AW := aw_of (tb_2 (List.mem_of_getElem? (i := 198) rfl)) rfl
theorem kl_J13_314 : (.constantLong RJ13 314 (6148914691236517205) : Cond) ∈ AW := aw_of (tb_2 (List.mem_of_getElem? (i := 199) rfl)) rfl
theorem kl_J13_316 : (.constantLong RJ13 316 (3689348814741910323) : Cond) ∈ AW := aw_of (tb_2 (List.mem_of_getElem? (i := 200) rfl)) rfl
theorem kl_J13_318 : (.constantLong RJ13 318 (1085102592571150095) : Cond) ∈ AW := aw_of (tb_2 (List.mem_of_getElem? (i := 201) rfl)) rfl
theorem ml_L_44 : (.methodLink RL 44 yX9_keep : Cond) ∈ AW := aw_of (tb_2 (List.mem_of_getElem? (i := 202) rfl)) rfl
theorem im_X9_keep : (.instanceMethod yX9_keep : Cond) ∈ AW := aw_of (tb_2 (List.mem_of_getElem? (i := 203) rfl)) rfl
theorem se_X9_keep : (.selects RX9 yX9_keep yX9_keep : Cond) ∈ AW := aw_of (tb_2 (List.mem_of_getElem? (i := 204) rfl)) rfl
theorem co_X9_keep : (.code yX9_keep cX9_keep 1 (Option.some Jvm.ClassFile.FieldType.int) : Cond) ∈ AW := aw_of (tb_2 (List.mem_of_getElem? (i := 205) rfl)) rfl
theorem ml_L_48 : (.methodLink RL 48 yX9_differ : Cond) ∈ AW := aw_of (tb_2 (List.mem_of_getElem? (i := 206) rfl)) rfl
theorem im_X9_differ : (.instanceMethod yX9_differ : Cond) ∈ AW := aw_of (tb_2 (List.mem_of_getElem? (i := 207) rfl)) rfl
theorem se_X9_differ : (.selects RX9 yX9_differ yX9_differ : Cond) ∈ AW := aw_of (tb_2 (List.mem_of_getElem? (i := 208) rfl)) rfl
theorem co_X9_differ : (.code yX9_differ cX9_differ 1 (Option.some Jvm.ClassFile.FieldType.int) : Cond) ∈ AW := aw_of (tb_2 (List.mem_of_getElem? (i := 209) rfl)) rfl
theorem ml_X9_146 : (.methodLink RX9 146 yX5_takeDifference : Cond) ∈ AW := aw_of (tb_2 (List.mem_of_getElem? (i := 210) rfl)) rfl
theorem im_X5_takeDifference : (.instanceMethod yX5_takeDifference : Cond) ∈ AW := aw_of (tb_2 (List.mem_of_getElem? (i := 211) rfl)) rfl
theorem se_X5_takeDifference : (.selects RX5 yX5_takeDifference yX5_takeDifference : Cond) ∈ AW := aw_of (tb_2 (List.mem_of_getElem? (i := 212) rfl)) rfl
theorem co_X5_takeDifference : (.code yX5_takeDifference cX5_takeDifference 2 (Option.none : Option Jvm.ClassFile.FieldType) : Cond) ∈ AW := aw_of (tb_2 (List.mem_of_getElem? (i := 213) rfl)) rfl
theorem ml_L_52 : (.methodLink RL 52 yX9_exchange : Cond) ∈ AW := aw_of (tb_2 (List.mem_of_getElem? (i := 214) rfl)) rfl
theorem im_X9_exchange : (.instanceMethod yX9_exchange : Cond) ∈ AW := aw_of (tb_2 (List.mem_of_getElem? (i := 215) rfl)) rfl
theorem se_X9_exchange : (.selects RX9 yX9_exchange yX9_exchange : Cond) ∈ AW := aw_of (tb_2 (List.mem_of_getElem? (i := 216) rfl)) rfl
theorem co_X9_exchange : (.code yX9_exchange cX9_exchange 3 (Option.some Jvm.ClassFile.FieldType.int) : Cond) ∈ AW := aw_of (tb_2 (List.mem_of_getElem? (i := 217) rfl)) rfl
theorem ml_X9_149 : (.methodLink RX9 149 yX0_hasPoint : Cond) ∈ AW := aw_of (tb_2 (List.mem_of_getElem? (i := 218) rfl)) rfl
theorem ml_X9_152 : (.methodLink RX9 152 yX5_exchangePoints : Cond) ∈ AW := aw_of (tb_2 (List.mem_of_getElem? (i := 219) rfl)) rfl
theorem im_X5_exchangePoints : (.instanceMethod yX5_exchangePoints : Cond) ∈ AW := aw_of (tb_2 (List.mem_of_getElem? (i := 220) rfl)) rfl
theorem se_X5_exchangePoints : (.selects RX5 yX5_exchangePoints yX5_exchangePoints : Cond) ∈ AW := aw_of (tb_2 (List.mem_of_getElem? (i := 221) rfl)) rfl
theorem co_X5_exchangePoints : (.code yX5_exchangePoints cX5_exchangePoints 6 (Option.none : Option Jvm.ClassFile.FieldType) : Cond) ∈ AW := aw_of (tb_2 (List.mem_of_getElem? (i := 222) rfl)) rfl
theorem sm_X9_withPlacesExchanged : (.static yX9_withPlacesExchanged : Cond) ∈ AW := aw_of (tb_2 (List.mem_of_getElem? (i := 224) rfl)) rfl
theorem co_X9_withPlacesExchanged : (.code yX9_withPlacesExchanged cX9_withPlacesExchanged 5 (Option.some Jvm.ClassFile.FieldType.long) : Cond) ∈ AW := aw_of (tb_2 (List.mem_of_getElem? (i := 225) rfl)) rfl
theorem ml_X5_73 : (.methodLink RX5 73 yX0_numberOf : Cond) ∈ AW := aw_of (tb_2 (List.mem_of_getElem? (i := 226) rfl)) rfl
theorem ml_L_56 : (.methodLink RL 56 yX9_feed : Cond) ∈ AW := aw_of (tb_2 (List.mem_of_getElem? (i := 227) rfl)) rfl
theorem im_X9_feed : (.instanceMethod yX9_feed : Cond) ∈ AW := aw_of (tb_2 (List.mem_of_getElem? (i := 228) rfl)) rfl
theorem se_X9_feed : (.selects RX9 yX9_feed yX9_feed : Cond) ∈ AW := aw_of (tb_2 (List.mem_of_getElem? (i := 229) rfl)) rfl
theorem co_X9_feed : (.code yX9_feed cX9_feed 2 (Option.some Jvm.ClassFile.FieldType.int) : Cond) ∈ AW := aw_of (tb_2 (List.mem_of_getElem? (i := 230) rfl)) rfl
theorem ml_X9_156 : (.methodLink RX9 156 yX4_addSign : Cond) ∈ AW := aw_of (tb_2 (List.mem_of_getElem? (i := 231) rfl)) rfl
theorem im_X4_addSign : (.instanceMethod yX4_addSign : Cond) ∈ AW := aw_of (tb_2 (List.mem_of_getElem? (i := 232) rfl)) rfl
theorem se_X4_addSign : (.selects RX4 yX4_addSign yX4_addSign : Cond) ∈ AW := aw_of (tb_2 (List.mem_of_getElem? (i := 233) rfl)) rfl
theorem co_X4_addSign : (.code yX4_addSign cX4_addSign 2 (Option.some Jvm.ClassFile.FieldType.boolean) : Cond) ∈ AW := aw_of (tb_2 (List.mem_of_getElem? (i := 234) rfl)) rfl
theorem ml_L_61 : (.methodLink RL 61 yX9_read : Cond) ∈ AW := aw_of (tb_2 (List.mem_of_getElem? (i := 235) rfl)) rfl
theorem im_X9_read : (.instanceMethod yX9_read : Cond) ∈ AW := aw_of (tb_2 (List.mem_of_getElem? (i := 236) rfl)) rfl
theorem se_X9_read : (.selects RX9 yX9_read yX9_read : Cond) ∈ AW := aw_of (tb_2 (List.mem_of_getElem? (i := 237) rfl)) rfl
theorem co_X9_read : (.code yX9_read cX9_read 5 (Option.some Jvm.ClassFile.FieldType.int) : Cond) ∈ AW := aw_of (tb_2 (List.mem_of_getElem? (i := 238) rfl)) rfl
theorem ml_X9_163 : (.methodLink RX9 163 yX4_parse : Cond) ∈ AW := aw_of (tb_2 (List.mem_of_getElem? (i := 239) rfl)) rfl
theorem im_X4_parse : (.instanceMethod yX4_parse : Cond) ∈ AW := aw_of (tb_3 (List.mem_of_getElem? (i := 0) rfl)) rfl
theorem se_X4_parse : (.selects RX4 yX4_parse yX4_parse : Cond) ∈ AW := aw_of (tb_3 (List.mem_of_getElem? (i := 1) rfl)) rfl
theorem co_X4_parse : (.code yX4_parse cX4_parse 2 (Option.some Jvm.ClassFile.FieldType.int) : Cond) ∈ AW := aw_of (tb_3 (List.mem_of_getElem? (i := 2) rfl)) rfl
theorem ml_X4_29 : (.methodLink RX4 29 yX4_passSign : Cond) ∈ AW := aw_of (tb_3 (List.mem_of_getElem? (i := 3) rfl)) rfl
theorem im_X4_passSign : (.instanceMethod yX4_passSign : Cond) ∈ AW := aw_of (tb_3 (List.mem_of_getElem? (i := 5) rfl)) rfl
theorem co_X4_passSign : (.code yX4_passSign cX4_passSign 2 (Option.some Jvm.ClassFile.FieldType.boolean) : Cond) ∈ AW := aw_of (tb_3 (List.mem_of_getElem? (i := 6) rfl)) rfl
theorem ml_X4_33 : (.methodLink RX4 33 yX4_parseClause : Cond) ∈ AW := aw_of (tb_3 (List.mem_of_getElem? (i := 7) rfl)) rfl
theorem im_X4_parseClause : (.instanceMethod yX4_parseClause : Cond) ∈ AW := aw_of (tb_3 (List.mem_of_getElem? (i := 9) rfl)) rfl
theorem co_X4_parseClause : (.code yX4_parseClause cX4_parseClause 4 (Option.some Jvm.ClassFile.FieldType.boolean) : Cond) ∈ AW := aw_of (tb_3 (List.mem_of_getElem? (i := 10) rfl)) rfl
theorem ml_X4_36 : (.methodLink RX4 36 yX4_parseWord : Cond) ∈ AW := aw_of (tb_3 (List.mem_of_getElem? (i := 11) rfl)) rfl
theorem im_X4_parseWord : (.instanceMethod yX4_parseWord : Cond) ∈ AW := aw_of (tb_3 (List.mem_of_getElem? (i := 13) rfl)) rfl
theorem co_X4_parseWord : (.code yX4_parseWord cX4_parseWord 5 (Option.some Jvm.ClassFile.FieldType.int) : Cond) ∈ AW := aw_of (tb_3 (List.mem_of_getElem? (i := 14) rfl)) rfl
theorem ml_X4_47 : (.methodLink RX4 47 yX4_nameOf : Cond) ∈ AW := aw_of (tb_3 (List.mem_of_getElem? (i := 15) rfl)) rfl
theorem sm_X4_nameOf : (.static yX4_nameOf : Cond) ∈ AW := aw_of (tb_3 (List.mem_of_getElem? (i := 16) rfl)) rfl
theorem co_X4_nameOf : (.code yX4_nameOf cX4_nameOf 1 (Option.some (Jvm.ClassFile.FieldType.object "java/lang/String")) : Cond) ∈ AW := aw_of (tb_3 (List.mem_of_getElem? (i := 17) rfl)) rfl
theorem ml_X4_51 : (.methodLink RX4 51 yX4_signsAlike : Cond) ∈ AW := aw_of (tb_3 (List.mem_of_getElem? (i := 26) rfl)) rfl
theorem im_X4_signsAlike : (.instanceMethod yX4_signsAlike : Cond) ∈ AW := aw_of (tb_3 (List.mem_of_getElem? (i := 28) rfl)) rfl
theorem co_X4_signsAlike : (.code yX4_signsAlike cX4_signsAlike 3 (Option.some Jvm.ClassFile.FieldType.int) : Cond) ∈ AW := aw_of (tb_3 (List.mem_of_getElem? (i := 29) rfl)) rfl
theorem ml_X4_55 : (.methodLink RX4 55 yJ0_length_8abf5 : Cond) ∈ AW := aw_of (tb_3 (List.mem_of_getElem? (i := 30) rfl)) rfl
theorem im_J0_length_8abf5 : (.instanceMethod yJ0_length_8abf5 : Cond) ∈ AW := aw_of (tb_3 (List.mem_of_getElem? (i := 31) rfl)) rfl
theorem se_J0_length_8abf5 : (.selects RJ0 yJ0_length_8abf5 yJ0_length_8abf5 : Cond) ∈ AW := aw_of (tb_3 (List.mem_of_getElem? (i := 32) rfl)) rfl
theorem co_J0_length_8abf5 : (.code yJ0_length_8abf5 cJ0_length_8abf5 1 (Option.some Jvm.ClassFile.FieldType.int) : Cond) ∈ AW := aw_of (tb_3 (List.mem_of_getElem? (i := 33) rfl)) rfl
theorem ml_J0_335 : (.methodLink RJ0 335 yJ0_coder_7d493 : Cond) ∈ AW := aw_of (tb_3 (List.mem_of_getElem? (i := 34) rfl)) rfl
theorem im_J0_coder_7d493 : (.instanceMethod yJ0_coder_7d493 : Cond) ∈ AW := aw_of (tb_3 (List.mem_of_getElem? (i := 35) rfl)) rfl
theorem se_J0_coder_7d493 : (.selects RJ0 yJ0_coder_7d493 yJ0_coder_7d493 : Cond) ∈ AW := aw_of (tb_3 (List.mem_of_getElem? (i := 36) rfl)) rfl
theorem co_J0_coder_7d493 : (.code yJ0_coder_7d493 cJ0_coder_7d493 1 (Option.some Jvm.ClassFile.FieldType.byte) : Cond) ∈ AW := aw_of (tb_3 (List.mem_of_getElem? (i := 37) rfl)) rfl
theorem fl_J0_38 : (.fieldLink RJ0 38 "java/lang/String" "COMPACT_STRINGS" "Z" : Cond) ∈ AW := aw_of (tb_3 (List.mem_of_getElem? (i := 38) rfl)) rfl
theorem ml_X4_65 : (.methodLink RX4 65 yJ0_charAt_5068e : Cond) ∈ AW := aw_of (tb_3 (List.mem_of_getElem? (i := 40) rfl)) rfl
theorem im_J0_charAt_5068e : (.instanceMethod yJ0_charAt_5068e : Cond) ∈ AW := aw_of (tb_3 (List.mem_of_getElem? (i := 41) rfl)) rfl
theorem se_J0_charAt_5068e : (.selects RJ0 yJ0_charAt_5068e yJ0_charAt_5068e : Cond) ∈ AW := aw_of (tb_3 (List.mem_of_getElem? (i := 42) rfl)) rfl
theorem co_J0_charAt_5068e : (.code yJ0_charAt_5068e cJ0_charAt_5068e 2 (Option.some Jvm.ClassFile.FieldType.char) : Cond) ∈ AW := aw_of (tb_3 (List.mem_of_getElem? (i := 43) rfl)) rfl
theorem ml_J0_492 : (.methodLink RJ0 492 yJ0_isLatin1_aae02 : Cond) ∈ AW := aw_of (tb_3 (List.mem_of_getElem? (i := 44) rfl)) rfl
theorem im_J0_isLatin1_aae02 : (.instanceMethod yJ0_isLatin1_aae02 : Cond) ∈ AW := aw_of (tb_3 (List.mem_of_getElem? (i := 45) rfl)) rfl
theorem se_J0_isLatin1_aae02 : (.selects RJ0 yJ0_isLatin1_aae02 yJ0_isLatin1_aae02 : Cond) ∈ AW := aw_of (tb_3 (List.mem_of_getElem? (i := 46) rfl)) rfl
theorem co_J0_isLatin1_aae02 : (.code yJ0_isLatin1_aae02 cJ0_isLatin1_aae02 1 (Option.some Jvm.ClassFile.FieldType.boolean) : Cond) ∈ AW := aw_of (tb_3 (List.mem_of_getElem? (i := 47) rfl)) rfl
theorem ml_J0_495 : (.methodLink RJ0 495 yJ1_charAt_3b067 : Cond) ∈ AW := aw_of (tb_3 (List.mem_of_getElem? (i := 48) rfl)) rfl
theorem sm_J1_charAt_3b067 : (.static yJ1_charAt_3b067 : Cond) ∈ AW := aw_of (tb_3 (List.mem_of_getElem? (i := 49) rfl)) rfl
theorem co_J1_charAt_3b067 : (.code yJ1_charAt_3b067 cJ1_charAt_3b067 2 (Option.some Jvm.ClassFile.FieldType.char) : Cond) ∈ AW := aw_of (tb_3 (List.mem_of_getElem? (i := 50) rfl)) rfl
theorem ml_J1_9 : (.methodLink RJ1 9 yJ0_checkIndex_df160 : Cond) ∈ AW := aw_of (tb_3 (List.mem_of_getElem? (i := 51) rfl)) rfl
theorem sm_J0_checkIndex_df160 : (.static yJ0_checkIndex_df160 : Cond) ∈ AW := aw_of (tb_3 (List.mem_of_getElem? (i := 52) rfl)) rfl
theorem co_J0_checkIndex_df160 : (.code yJ0_checkIndex_df160 cJ0_checkIndex_df160 2 (Option.none : Option Jvm.ClassFile.FieldType) : Cond) ∈ AW := aw_of (tb_3 (List.mem_of_getElem? (i := 53) rfl)) rfl
theorem fl_J0_1053 : (.fieldLink RJ0 1053 "jdk/internal/util/Preconditions" "SIOOBE_FORMATTER" "Ljava/util/function/BiFunction;" : Cond) ∈ AW := aw_of (tb_3 (List.mem_of_getElem? (i := 54) rfl)) rfl
theorem ml_J0_1059 : (.methodLink RJ0 1059 yJ3_checkIndex_8e157 : Cond) ∈ AW := aw_of (tb_3 (List.mem_of_getElem? (i := 56) rfl)) rfl
theorem sm_J3_checkIndex_8e157 : (.static yJ3_checkIndex_8e157 : Cond) ∈ AW := aw_of (tb_3 (List.mem_of_getElem? (i := 57) rfl)) rfl
theorem co_J3_checkIndex_8e157 : (.code yJ3_checkIndex_8e157 cJ3_checkIndex_8e157 3 (Option.some Jvm.ClassFile.FieldType.int) : Cond) ∈ AW := aw_of (tb_3 (List.mem_of_getElem? (i := 58) rfl)) rfl
theorem ml_J0_498 : (.methodLink RJ0 498 yJ2_charAt_3b067 : Cond) ∈ AW := aw_of (tb_3 (List.mem_of_getElem? (i := 59) rfl)) rfl
theorem sm_J2_charAt_3b067 : (.static yJ2_charAt_3b067 : Cond) ∈ AW := aw_of (tb_3 (List.mem_of_getElem? (i := 60) rfl)) rfl
theorem co_J2_charAt_3b067 : (.code yJ2_charAt_3b067 cJ2_charAt_3b067 2 (Option.some Jvm.ClassFile.FieldType.char) : Cond) ∈ AW := aw_of (tb_3 (List.mem_of_getElem? (i := 61) rfl)) rfl
theorem ml_J2_67 : (.methodLink RJ2 67 yJ2_checkIndex_2214a : Cond) ∈ AW := aw_of (tb_3 (List.mem_of_getElem? (i := 62) rfl)) rfl
theorem sm_J2_checkIndex_2214a : (.static yJ2_checkIndex_2214a : Cond) ∈ AW := aw_of (tb_3 (List.mem_of_getElem? (i := 63) rfl)) rfl
theorem co_J2_checkIndex_2214a : (.code yJ2_checkIndex_2214a cJ2_checkIndex_2214a 2 (Option.none : Option Jvm.ClassFile.FieldType) : Cond) ∈ AW := aw_of (tb_3 (List.mem_of_getElem? (i := 64) rfl)) rfl
theorem ml_J2_48 : (.methodLink RJ2 48 yJ2_length_9d52b : Cond) ∈ AW := aw_of (tb_3 (List.mem_of_getElem? (i := 65) rfl)) rfl
theorem sm_J2_length_9d52b : (.static yJ2_length_9d52b : Cond) ∈ AW := aw_of (tb_3 (List.mem_of_getElem? (i := 66) rfl)) rfl
theorem co_J2_length_9d52b : (.code yJ2_length_9d52b cJ2_length_9d52b 1 (Option.some Jvm.ClassFile.FieldType.int) : Cond) ∈ AW := aw_of (tb_3 (List.mem_of_getElem? (i := 67) rfl)) rfl
theorem ml_J2_414 : (.methodLink RJ2 414 yJ0_checkIndex_df160 : Cond) ∈ AW := aw_of (tb_3 (List.mem_of_getElem? (i := 68) rfl)) rfl
theorem ml_J2_71 : (.methodLink RJ2 71 yJ2_getChar_3b067 : Cond) ∈ AW := aw_of (tb_3 (List.mem_of_getElem? (i := 69) rfl)) rfl
theorem sm_J2_getChar_3b067 : (.static yJ2_getChar_3b067 : Cond) ∈ AW := aw_of (tb_3 (List.mem_of_getElem? (i := 70) rfl)) rfl
theorem co_J2_getChar_3b067 : (.code yJ2_getChar_3b067 cJ2_getChar_3b067 2 (Option.some Jvm.ClassFile.FieldType.char) : Cond) ∈ AW := aw_of (tb_3 (List.mem_of_getElem? (i := 71) rfl)) rfl
theorem fl_J2_44 : (.fieldLink RJ2 44 "java/lang/StringUTF16" "$assertionsDisabled" "Z" : Cond) ∈ AW := aw_of (tb_3 (List.mem_of_getElem? (i := 72) rfl)) rfl
theorem fl_J2_59 : (.fieldLink RJ2 59 "java/lang/StringUTF16" "HI_BYTE_SHIFT" "I" : Cond) ∈ AW := aw_of (tb_3 (List.mem_of_getElem? (i := 74) rfl)) rfl
theorem fl_J2_63 : (.fieldLink RJ2 63 "java/lang/StringUTF16" "LO_BYTE_SHIFT" "I" : Cond) ∈ AW := aw_of (tb_3 (List.mem_of_getElem? (i := 76) rfl)) rfl
theorem ml_X4_59 : (.methodLink RX4 59 yJ9_max_7cf53 : Cond) ∈ AW := aw_of (tb_3 (List.mem_of_getElem? (i := 78) rfl)) rfl
theorem ml_X4_40 : (.methodLink RX4 40 yX4_numbersBehind : Cond) ∈ AW := aw_of (tb_3 (List.mem_of_getElem? (i := 79) rfl)) rfl
theorem sm_X4_numbersBehind : (.static yX4_numbersBehind : Cond) ∈ AW := aw_of (tb_3 (List.mem_of_getElem? (i := 80) rfl)) rfl
theorem co_X4_numbersBehind : (.code yX4_numbersBehind cX4_numbersBehind 1 (Option.some Jvm.ClassFile.FieldType.int) : Cond) ∈ AW := aw_of (tb_3 (List.mem_of_getElem? (i := 81) rfl)) rfl
theorem ml_X4_44 : (.methodLink RX4 44 yX4_parseNumber : Cond) ∈ AW := aw_of (tb_3 (List.mem_of_getElem? (i := 82) rfl)) rfl
theorem im_X4_parseNumber : (.instanceMethod yX4_parseNumber : Cond) ∈ AW := aw_of (tb_3 (List.mem_of_getElem? (i := 84) rfl)) rfl
theorem co_X4_parseNumber : (.code yX4_parseNumber cX4_parseNumber 5 (Option.some Jvm.ClassFile.FieldType.boolean) : Cond) ∈ AW := aw_of (tb_3 (List.mem_of_getElem? (i := 85) rfl)) rfl
theorem ml_X9_172 : (.methodLink RX9 172 yX4_numberOf : Cond) ∈ AW := aw_of (tb_3 (List.mem_of_getElem? (i := 86) rfl)) rfl
theorem im_X4_numberOf : (.instanceMethod yX4_numberOf : Cond) ∈ AW := aw_of (tb_3 (List.mem_of_getElem? (i := 87) rfl)) rfl
theorem se_X4_numberOf : (.selects RX4 yX4_numberOf yX4_numberOf : Cond) ∈ AW := aw_of (tb_3 (List.mem_of_getElem? (i := 88) rfl)) rfl
theorem co_X4_numberOf : (.code yX4_numberOf cX4_numberOf 4 (Option.some Jvm.ClassFile.FieldType.int) : Cond) ∈ AW := aw_of (tb_3 (List.mem_of_getElem? (i := 89) rfl)) rfl
theorem ml_X9_176 : (.methodLink RX9 176 yX9_doClause : Cond) ∈ AW := aw_of (tb_3 (List.mem_of_getElem? (i := 90) rfl)) rfl
theorem im_X9_doClause : (.instanceMethod yX9_doClause : Cond) ∈ AW := aw_of (tb_3 (List.mem_of_getElem? (i := 92) rfl)) rfl
theorem co_X9_doClause : (.code yX9_doClause cX9_doClause 5 (Option.some Jvm.ClassFile.FieldType.int) : Cond) ∈ AW := aw_of (tb_3 (List.mem_of_getElem? (i := 93) rfl)) rfl
theorem ml_X9_180 : (.methodLink RX9 180 yX9_size : Cond) ∈ AW := aw_of (tb_3 (List.mem_of_getElem? (i := 94) rfl)) rfl
theorem ml_X9_184 : (.methodLink RX9 184 yX9_count : Cond) ∈ AW := aw_of (tb_3 (List.mem_of_getElem? (i := 95) rfl)) rfl
theorem ml_X9_187 : (.methodLink RX9 187 yX9_twist : Cond) ∈ AW := aw_of (tb_3 (List.mem_of_getElem? (i := 96) rfl)) rfl
theorem ml_X9_190 : (.methodLink RX9 190 yX9_turn : Cond) ∈ AW := aw_of (tb_3 (List.mem_of_getElem? (i := 97) rfl)) rfl
theorem ml_X9_193 : (.methodLink RX9 193 yX9_swap : Cond) ∈ AW := aw_of (tb_3 (List.mem_of_getElem? (i := 98) rfl)) rfl
theorem ml_X9_196 : (.methodLink RX9 196 yX9_keep : Cond) ∈ AW := aw_of (tb_3 (List.mem_of_getElem? (i := 99) rfl)) rfl
theorem ml_X9_199 : (.methodLink RX9 199 yX9_differ : Cond) ∈ AW := aw_of (tb_3 (List.mem_of_getElem? (i := 100) rfl)) rfl
theorem ac_byte : (.arrayClass Jvm.ClassFile.FieldType.byte : Cond) ∈ AW := aw_of (tb_3 (List.mem_of_getElem? (i := 101) rfl)) rfl
theorem ml_L_65 : (.methodLink RL 65 yX9_told : Cond) ∈ AW := aw_of (tb_3 (List.mem_of_getElem? (i := 102) rfl)) rfl
theorem im_X9_told : (.instanceMethod yX9_told : Cond) ∈ AW := aw_of (tb_3 (List.mem_of_getElem? (i := 103) rfl)) rfl
theorem se_X9_told : (.selects RX9 yX9_told yX9_told : Cond) ∈ AW := aw_of (tb_3 (List.mem_of_getElem? (i := 104) rfl)) rfl
theorem co_X9_told : (.code yX9_told cX9_told 2 (Option.some Jvm.ClassFile.FieldType.int) : Cond) ∈ AW := aw_of (tb_3 (List.mem_of_getElem? (i := 105) rfl)) rfl
theorem ml_X9_205 : (.methodLink RX9 205 yX5_foundation : Cond) ∈ AW := aw_of (tb_3 (List.mem_of_getElem? (i := 106) rfl)) rfl
theorem im_X5_foundation : (.instanceMethod yX5_foundation : Cond) ∈ AW := aw_of (tb_3 (List.mem_of_getElem? (i := 107) rfl)) rfl
theorem se_X5_foundation : (.selects RX5 yX5_foundation yX5_foundation : Cond) ∈ AW := aw_of (tb_3 (List.mem_of_getElem? (i := 108) rfl)) rfl
theorem co_X5_foundation : (.code yX5_foundation cX5_foundation 3 (Option.some Jvm.ClassFile.FieldType.int) : Cond) ∈ AW := aw_of (tb_3 (List.mem_of_getElem? (i := 109) rfl)) rfl
theorem ml_X9_208 : (.methodLink RX9 208 yX5_isPlain : Cond) ∈ AW := aw_of (tb_3 (List.mem_of_getElem? (i := 110) rfl)) rfl
theorem im_X5_isPlain : (.instanceMethod yX5_isPlain : Cond) ∈ AW := aw_of (tb_3 (List.mem_of_getElem? (i := 111) rfl)) rfl
theorem se_X5_isPlain : (.selects RX5 yX5_isPlain yX5_isPlain : Cond) ∈ AW := aw_of (tb_3 (List.mem_of_getElem? (i := 112) rfl)) rfl
theorem co_X5_isPlain : (.code yX5_isPlain cX5_isPlain 2 (Option.some Jvm.ClassFile.FieldType.boolean) : Cond) ∈ AW := aw_of (tb_3 (List.mem_of_getElem? (i := 113) rfl)) rfl
theorem ml_X9_211 : (.methodLink RX9 211 yX5_isTrade : Cond) ∈ AW := aw_of (tb_3 (List.mem_of_getElem? (i := 114) rfl)) rfl
theorem ml_X9_214 : (.methodLink RX9 214 yX5_index : Cond) ∈ AW := aw_of (tb_3 (List.mem_of_getElem? (i := 115) rfl)) rfl
theorem im_X5_index : (.instanceMethod yX5_index : Cond) ∈ AW := aw_of (tb_3 (List.mem_of_getElem? (i := 116) rfl)) rfl
theorem se_X5_index : (.selects RX5 yX5_index yX5_index : Cond) ∈ AW := aw_of (tb_3 (List.mem_of_getElem? (i := 117) rfl)) rfl
theorem co_X5_index : (.code yX5_index cX5_index 4 (Option.some Jvm.ClassFile.FieldType.int) : Cond) ∈ AW := aw_of (tb_3 (List.mem_of_getElem? (i := 118) rfl)) rfl
theorem ml_X5_111 : (.methodLink RX5 111 yX5_coverOf : Cond) ∈ AW := aw_of (tb_3 (List.mem_of_getElem? (i := 119) rfl)) rfl
theorem im_X5_coverOf : (.instanceMethod yX5_coverOf : Cond) ∈ AW := aw_of (tb_3 (List.mem_of_getElem? (i := 120) rfl)) rfl
theorem se_X5_coverOf : (.selects RX5 yX5_coverOf yX5_coverOf : Cond) ∈ AW := aw_of (tb_3 (List.mem_of_getElem? (i := 121) rfl)) rfl
theorem co_X5_coverOf : (.code yX5_coverOf cX5_coverOf 4 (Option.some Jvm.ClassFile.FieldType.int) : Cond) ∈ AW := aw_of (tb_3 (List.mem_of_getElem? (i := 122) rfl)) rfl
theorem ml_X5_107 : (.methodLink RX5 107 yX0_holds : Cond) ∈ AW := aw_of (tb_3 (List.mem_of_getElem? (i := 123) rfl)) rfl
theorem im_X0_holds : (.instanceMethod yX0_holds : Cond) ∈ AW := aw_of (tb_3 (List.mem_of_getElem? (i := 124) rfl)) rfl
theorem se_X0_holds : (.selects RX0 yX0_holds yX0_holds : Cond) ∈ AW := aw_of (tb_3 (List.mem_of_getElem? (i := 125) rfl)) rfl
theorem co_X0_holds : (.code yX0_holds cX0_holds 3 (Option.some Jvm.ClassFile.FieldType.boolean) : Cond) ∈ AW := aw_of (tb_3 (List.mem_of_getElem? (i := 126) rfl)) rfl
theorem ml_L_69 : (.methodLink RL 69 yX9_block : Cond) ∈ AW := aw_of (tb_3 (List.mem_of_getElem? (i := 127) rfl)) rfl
theorem im_X9_block : (.instanceMethod yX9_block : Cond) ∈ AW := aw_of (tb_3 (List.mem_of_getElem? (i := 128) rfl)) rfl
theorem se_X9_block : (.selects RX9 yX9_block yX9_block : Cond) ∈ AW := aw_of (tb_3 (List.mem_of_getElem? (i := 129) rfl)) rfl
theorem co_X9_block : (.code yX9_block cX9_block 2 (Option.some Jvm.ClassFile.FieldType.int) : Cond) ∈ AW := aw_of (tb_3 (List.mem_of_getElem? (i := 130) rfl)) rfl
theorem ml_L_73 : (.methodLink RL 73 yX9_number : Cond) ∈ AW := aw_of (tb_3 (List.mem_of_getElem? (i := 131) rfl)) rfl
theorem im_X9_number : (.instanceMethod yX9_number : Cond) ∈ AW := aw_of (tb_3 (List.mem_of_getElem? (i := 132) rfl)) rfl
theorem se_X9_number : (.selects RX9 yX9_number yX9_number : Cond) ∈ AW := aw_of (tb_3 (List.mem_of_getElem? (i := 133) rfl)) rfl
theorem co_X9_number : (.code yX9_number cX9_number 2 (Option.some Jvm.ClassFile.FieldType.int) : Cond) ∈ AW := aw_of (tb_3 (List.mem_of_getElem? (i := 134) rfl)) rfl
theorem ml_X9_223 : (.methodLink RX9 223 yX0_isSet : Cond) ∈ AW := aw_of (tb_3 (List.mem_of_getElem? (i := 135) rfl)) rfl
theorem im_X0_isSet : (.instanceMethod yX0_isSet : Cond) ∈ AW := aw_of (tb_3 (List.mem_of_getElem? (i := 136) rfl)) rfl
theorem se_X0_isSet : (.selects RX0 yX0_isSet yX0_isSet : Cond) ∈ AW := aw_of (tb_3 (List.mem_of_getElem? (i := 137) rfl)) rfl
theorem co_X0_isSet : (.code yX0_isSet cX0_isSet 3 (Option.some Jvm.ClassFile.FieldType.boolean) : Cond) ∈ AW := aw_of (tb_3 (List.mem_of_getElem? (i := 138) rfl)) rfl
theorem ml_X9_227 : (.methodLink RX9 227 yX0_numberOf : Cond) ∈ AW := aw_of (tb_3 (List.mem_of_getElem? (i := 139) rfl)) rfl
theorem ml_L_77 : (.methodLink RL 77 yX9_of : Cond) ∈ AW := aw_of (tb_3 (List.mem_of_getElem? (i := 140) rfl)) rfl
theorem im_X9_of : (.instanceMethod yX9_of : Cond) ∈ AW := aw_of (tb_3 (List.mem_of_getElem? (i := 141) rfl)) rfl
theorem se_X9_of : (.selects RX9 yX9_of yX9_of : Cond) ∈ AW := aw_of (tb_3 (List.mem_of_getElem? (i := 142) rfl)) rfl
theorem co_X9_of : (.code yX9_of cX9_of 3 (Option.some Jvm.ClassFile.FieldType.int) : Cond) ∈ AW := aw_of (tb_3 (List.mem_of_getElem? (i := 143) rfl)) rfl
theorem ml_L_81 : (.methodLink RL 81 yX9_sum : Cond) ∈ AW := aw_of (tb_3 (List.mem_of_getElem? (i := 144) rfl)) rfl
theorem im_X9_sum : (.instanceMethod yX9_sum : Cond) ∈ AW := aw_of (tb_3 (List.mem_of_getElem? (i := 145) rfl)) rfl
theorem se_X9_sum : (.selects RX9 yX9_sum yX9_sum : Cond) ∈ AW := aw_of (tb_3 (List.mem_of_getElem? (i := 146) rfl)) rfl
theorem co_X9_sum : (.code yX9_sum cX9_sum 2 (Option.some Jvm.ClassFile.FieldType.int) : Cond) ∈ AW := aw_of (tb_3 (List.mem_of_getElem? (i := 147) rfl)) rfl
theorem ml_X9_233 : (.methodLink RX9 233 yX5_sumOf : Cond) ∈ AW := aw_of (tb_3 (List.mem_of_getElem? (i := 148) rfl)) rfl
theorem ml_L_85 : (.methodLink RL 85 yX9_amiss : Cond) ∈ AW := aw_of (tb_3 (List.mem_of_getElem? (i := 149) rfl)) rfl
theorem im_X9_amiss : (.instanceMethod yX9_amiss : Cond) ∈ AW := aw_of (tb_3 (List.mem_of_getElem? (i := 150) rfl)) rfl
theorem se_X9_amiss : (.selects RX9 yX9_amiss yX9_amiss : Cond) ∈ AW := aw_of (tb_3 (List.mem_of_getElem? (i := 151) rfl)) rfl
theorem co_X9_amiss : (.code yX9_amiss cX9_amiss 1 (Option.some Jvm.ClassFile.FieldType.int) : Cond) ∈ AW := aw_of (tb_3 (List.mem_of_getElem? (i := 152) rfl)) rfl
theorem ml_X9_236 : (.methodLink RX9 236 yX5_firstAmiss : Cond) ∈ AW := aw_of (tb_3 (List.mem_of_getElem? (i := 153) rfl)) rfl
theorem ml_L_89 : (.methodLink RL 89 yX9_cover : Cond) ∈ AW := aw_of (tb_3 (List.mem_of_getElem? (i := 154) rfl)) rfl
theorem im_X9_cover : (.instanceMethod yX9_cover : Cond) ∈ AW := aw_of (tb_3 (List.mem_of_getElem? (i := 155) rfl)) rfl
theorem se_X9_cover : (.selects RX9 yX9_cover yX9_cover : Cond) ∈ AW := aw_of (tb_3 (List.mem_of_getElem? (i := 156) rfl)) rfl
theorem co_X9_cover : (.code yX9_cover cX9_cover 2 (Option.some Jvm.ClassFile.FieldType.int) : Cond) ∈ AW := aw_of (tb_3 (List.mem_of_getElem? (i := 157) rfl)) rfl
theorem ml_X9_239 : (.methodLink RX9 239 yX5_coverOf : Cond) ∈ AW := aw_of (tb_3 (List.mem_of_getElem? (i := 158) rfl)) rfl
theorem ml_L_93 : (.methodLink RL 93 yX9_written : Cond) ∈ AW := aw_of (tb_3 (List.mem_of_getElem? (i := 159) rfl)) rfl
theorem im_X9_written : (.instanceMethod yX9_written : Cond) ∈ AW := aw_of (tb_3 (List.mem_of_getElem? (i := 160) rfl)) rfl
theorem se_X9_written : (.selects RX9 yX9_written yX9_written : Cond) ∈ AW := aw_of (tb_3 (List.mem_of_getElem? (i := 161) rfl)) rfl
theorem co_X9_written : (.code yX9_written cX9_written 2 (Option.some Jvm.ClassFile.FieldType.int) : Cond) ∈ AW := aw_of (tb_3 (List.mem_of_getElem? (i := 162) rfl)) rfl
theorem ml_X9_242 : (.methodLink RX9 242 yX5_signWritten : Cond) ∈ AW := aw_of (tb_3 (List.mem_of_getElem? (i := 163) rfl)) rfl
theorem im_X5_signWritten : (.instanceMethod yX5_signWritten : Cond) ∈ AW := aw_of (tb_3 (List.mem_of_getElem? (i := 164) rfl)) rfl
theorem se_X5_signWritten : (.selects RX5 yX5_signWritten yX5_signWritten : Cond) ∈ AW := aw_of (tb_3 (List.mem_of_getElem? (i := 165) rfl)) rfl
theorem co_X5_signWritten : (.code yX5_signWritten cX5_signWritten 5 (Option.some Jvm.ClassFile.FieldType.int) : Cond) ∈ AW := aw_of (tb_3 (List.mem_of_getElem? (i := 166) rfl)) rfl
theorem ml_X5_114 : (.methodLink RX5 114 yX5_factorLength : Cond) ∈ AW := aw_of (tb_3 (List.mem_of_getElem? (i := 167) rfl)) rfl
theorem sm_X5_factorLength : (.static yX5_factorLength : Cond) ∈ AW := aw_of (tb_3 (List.mem_of_getElem? (i := 168) rfl)) rfl
theorem co_X5_factorLength : (.code yX5_factorLength cX5_factorLength 2 (Option.some Jvm.ClassFile.FieldType.int) : Cond) ∈ AW := aw_of (tb_3 (List.mem_of_getElem? (i := 169) rfl)) rfl
theorem ml_X5_126 : (.methodLink RX5 126 yJ9_abs_0f7a4 : Cond) ∈ AW := aw_of (tb_3 (List.mem_of_getElem? (i := 170) rfl)) rfl
theorem sm_J9_abs_0f7a4 : (.static yJ9_abs_0f7a4 : Cond) ∈ AW := aw_of (tb_3 (List.mem_of_getElem? (i := 171) rfl)) rfl
theorem co_J9_abs_0f7a4 : (.code yJ9_abs_0f7a4 cJ9_abs_0f7a4 1 (Option.some Jvm.ClassFile.FieldType.int) : Cond) ∈ AW := aw_of (tb_3 (List.mem_of_getElem? (i := 172) rfl)) rfl
theorem ml_X5_120 : (.methodLink RX5 120 yX5_signOfTerm : Cond) ∈ AW := aw_of (tb_3 (List.mem_of_getElem? (i := 173) rfl)) rfl
theorem im_X5_signOfTerm : (.instanceMethod yX5_signOfTerm : Cond) ∈ AW := aw_of (tb_3 (List.mem_of_getElem? (i := 175) rfl)) rfl
theorem co_X5_signOfTerm : (.code yX5_signOfTerm cX5_signOfTerm 6 (Option.some Jvm.ClassFile.FieldType.int) : Cond) ∈ AW := aw_of (tb_3 (List.mem_of_getElem? (i := 176) rfl)) rfl
theorem ml_X5_123 : (.methodLink RX5 123 yX5_pointOf : Cond) ∈ AW := aw_of (tb_3 (List.mem_of_getElem? (i := 177) rfl)) rfl
theorem sm_X5_pointOf : (.static yX5_pointOf : Cond) ∈ AW := aw_of (tb_3 (List.mem_of_getElem? (i := 178) rfl)) rfl
theorem co_X5_pointOf : (.code yX5_pointOf cX5_pointOf 4 (Option.some Jvm.ClassFile.FieldType.int) : Cond) ∈ AW := aw_of (tb_3 (List.mem_of_getElem? (i := 179) rfl)) rfl
theorem ml_L_97 : (.methodLink RL 97 yX9_open : Cond) ∈ AW := aw_of (tb_3 (List.mem_of_getElem? (i := 180) rfl)) rfl
theorem im_X9_open : (.instanceMethod yX9_open : Cond) ∈ AW := aw_of (tb_3 (List.mem_of_getElem? (i := 181) rfl)) rfl
theorem se_X9_open : (.selects RX9 yX9_open yX9_open : Cond) ∈ AW := aw_of (tb_3 (List.mem_of_getElem? (i := 182) rfl)) rfl
theorem co_X9_open : (.code yX9_open cX9_open 2 (Option.some Jvm.ClassFile.FieldType.int) : Cond) ∈ AW := aw_of (tb_3 (List.mem_of_getElem? (i := 183) rfl)) rfl
theorem ml_X9_245 : (.methodLink RX9 245 yX1_look : Cond) ∈ AW := aw_of (tb_3 (List.mem_of_getElem? (i := 184) rfl)) rfl
theorem im_X1_look : (.instanceMethod yX1_look : Cond) ∈ AW := aw_of (tb_3 (List.mem_of_getElem? (i := 185) rfl)) rfl
theorem se_X1_look : (.selects RX1 yX1_look yX1_look : Cond) ∈ AW := aw_of (tb_3 (List.mem_of_getElem? (i := 186) rfl)) rfl
theorem co_X1_look : (.code yX1_look cX1_look 2 (Option.none : Option Jvm.ClassFile.FieldType) : Cond) ∈ AW := aw_of (tb_3 (List.mem_of_getElem? (i := 187) rfl)) rfl
theorem ml_X1_32 : (.methodLink RX1 32 yX8_becomeFor : Cond) ∈ AW := aw_of (tb_3 (List.mem_of_getElem? (i := 188) rfl)) rfl
theorem ml_X1_36 : (.methodLink RX1 36 yX1_choosePoints : Cond) ∈ AW := aw_of (tb_3 (List.mem_of_getElem? (i := 189) rfl)) rfl
theorem sm_X1_choosePoints : (.static yX1_choosePoints : Cond) ∈ AW := aw_of (tb_3 (List.mem_of_getElem? (i := 190) rfl)) rfl
theorem co_X1_choosePoints : (.code yX1_choosePoints cX1_choosePoints 6 (Option.none : Option Jvm.ClassFile.FieldType) : Cond) ∈ AW := aw_of (tb_3 (List.mem_of_getElem? (i := 191) rfl)) rfl
theorem ml_X1_43 : (.methodLink RX1 43 yX1_judgeTwist : Cond) ∈ AW := aw_of (tb_3 (List.mem_of_getElem? (i := 192) rfl)) rfl
theorem im_X1_judgeTwist : (.instanceMethod yX1_judgeTwist : Cond) ∈ AW := aw_of (tb_3 (List.mem_of_getElem? (i := 194) rfl)) rfl
theorem co_X1_judgeTwist : (.code yX1_judgeTwist cX1_judgeTwist 7 (Option.none : Option Jvm.ClassFile.FieldType) : Cond) ∈ AW := aw_of (tb_3 (List.mem_of_getElem? (i := 195) rfl)) rfl
theorem ml_X1_63 : (.methodLink RX1 63 yX8_blockOf : Cond) ∈ AW := aw_of (tb_3 (List.mem_of_getElem? (i := 196) rfl)) rfl
theorem ml_X1_77 : (.methodLink RX1 77 yX8_choices : Cond) ∈ AW := aw_of (tb_3 (List.mem_of_getElem? (i := 198) rfl)) rfl
theorem ml_X1_81 : (.methodLink RX1 81 yX8_signOf : Cond) ∈ AW := aw_of (tb_3 (List.mem_of_getElem? (i := 199) rfl)) rfl
theorem ml_X1_47 : (.methodLink RX1 47 yX1_leastPoint : Cond) ∈ AW := aw_of (tb_3 (List.mem_of_getElem? (i := 200) rfl)) rfl
theorem im_X1_leastPoint : (.instanceMethod yX1_leastPoint : Cond) ∈ AW := aw_of (tb_3 (List.mem_of_getElem? (i := 202) rfl)) rfl
theorem co_X1_leastPoint : (.code yX1_leastPoint cX1_leastPoint 4 (Option.some Jvm.ClassFile.FieldType.int) : Cond) ∈ AW := aw_of (tb_3 (List.mem_of_getElem? (i := 203) rfl)) rfl
theorem ml_L_101 : (.methodLink RL 101 yX9_parted : Cond) ∈ AW := aw_of (tb_3 (List.mem_of_getElem? (i := 204) rfl)) rfl
theorem im_X9_parted : (.instanceMethod yX9_parted : Cond) ∈ AW := aw_of (tb_3 (List.mem_of_getElem? (i := 205) rfl)) rfl
theorem se_X9_parted : (.selects RX9 yX9_parted yX9_parted : Cond) ∈ AW := aw_of (tb_3 (List.mem_of_getElem? (i := 206) rfl)) rfl
theorem co_X9_parted : (.code yX9_parted cX9_parted 2 (Option.some Jvm.ClassFile.FieldType.int) : Cond) ∈ AW := aw_of (tb_3 (List.mem_of_getElem? (i := 207) rfl)) rfl
theorem ml_X9_258 : (.methodLink RX9 258 yX2_isParts : Cond) ∈ AW := aw_of (tb_3 (List.mem_of_getElem? (i := 208) rfl)) rfl
theorem sm_X2_isParts : (.static yX2_isParts : Cond) ∈ AW := aw_of (tb_3 (List.mem_of_getElem? (i := 209) rfl)) rfl
theorem co_X2_isParts : (.code yX2_isParts cX2_isParts 1 (Option.some Jvm.ClassFile.FieldType.boolean) : Cond) ∈ AW := aw_of (tb_3 (List.mem_of_getElem? (i := 210) rfl)) rfl
theorem ml_X9_261 : (.methodLink RX9 261 yX2_isLookedFor : Cond) ∈ AW := aw_of (tb_3 (List.mem_of_getElem? (i := 211) rfl)) rfl
theorem sm_X2_isLookedFor : (.static yX2_isLookedFor : Cond) ∈ AW := aw_of (tb_3 (List.mem_of_getElem? (i := 212) rfl)) rfl
theorem co_X2_isLookedFor : (.code yX2_isLookedFor cX2_isLookedFor 1 (Option.some Jvm.ClassFile.FieldType.boolean) : Cond) ∈ AW := aw_of (tb_3 (List.mem_of_getElem? (i := 213) rfl)) rfl
theorem ml_X9_265 : (.methodLink RX9 265 yX2_look : Cond) ∈ AW := aw_of (tb_3 (List.mem_of_getElem? (i := 214) rfl)) rfl
theorem im_X2_look : (.instanceMethod yX2_look : Cond) ∈ AW := aw_of (tb_3 (List.mem_of_getElem? (i := 215) rfl)) rfl
theorem se_X2_look : (.selects RX2 yX2_look yX2_look : Cond) ∈ AW := aw_of (tb_3 (List.mem_of_getElem? (i := 216) rfl)) rfl
theorem co_X2_look : (.code yX2_look cX2_look 6 (Option.none : Option Jvm.ClassFile.FieldType) : Cond) ∈ AW := aw_of (tb_3 (List.mem_of_getElem? (i := 217) rfl)) rfl
theorem ml_X2_47 : (.methodLink RX2 47 yX0_sizes : Cond) ∈ AW := aw_of (tb_3 (List.mem_of_getElem? (i := 218) rfl)) rfl
theorem ml_X2_51 : (.methodLink RX2 51 yX2_isParts : Cond) ∈ AW := aw_of (tb_3 (List.mem_of_getElem? (i := 219) rfl)) rfl
theorem ml_X2_55 : (.methodLink RX2 55 yX2_isLookedFor : Cond) ∈ AW := aw_of (tb_3 (List.mem_of_getElem? (i := 220) rfl)) rfl
theorem ml_X2_59 : (.methodLink RX2 59 yX0_holding : Cond) ∈ AW := aw_of (tb_3 (List.mem_of_getElem? (i := 221) rfl)) rfl
theorem im_X0_holding : (.instanceMethod yX0_holding : Cond) ∈ AW := aw_of (tb_3 (List.mem_of_getElem? (i := 222) rfl)) rfl
theorem se_X0_holding : (.selects RX0 yX0_holding yX0_holding : Cond) ∈ AW := aw_of (tb_3 (List.mem_of_getElem? (i := 223) rfl)) rfl
theorem co_X0_holding : (.code yX0_holding cX0_holding 4 (Option.some Jvm.ClassFile.FieldType.int) : Cond) ∈ AW := aw_of (tb_3 (List.mem_of_getElem? (i := 224) rfl)) rfl
theorem ml_X0_45 : (.methodLink RX0 45 yX0_holds : Cond) ∈ AW := aw_of (tb_3 (List.mem_of_getElem? (i := 225) rfl)) rfl
theorem ml_X2_63 : (.methodLink RX2 63 yX2_startTallies : Cond) ∈ AW := aw_of (tb_3 (List.mem_of_getElem? (i := 226) rfl)) rfl
theorem im_X2_startTallies : (.instanceMethod yX2_startTallies : Cond) ∈ AW := aw_of (tb_3 (List.mem_of_getElem? (i := 228) rfl)) rfl
theorem co_X2_startTallies : (.code yX2_startTallies cX2_startTallies 5 (Option.none : Option Jvm.ClassFile.FieldType) : Cond) ∈ AW := aw_of (tb_3 (List.mem_of_getElem? (i := 229) rfl)) rfl
theorem ml_X2_67 : (.methodLink RX2 67 yX2_stepOf : Cond) ∈ AW := aw_of (tb_3 (List.mem_of_getElem? (i := 230) rfl)) rfl
theorem sm_X2_stepOf : (.static yX2_stepOf : Cond) ∈ AW := aw_of (tb_3 (List.mem_of_getElem? (i := 231) rfl)) rfl
theorem co_X2_stepOf : (.code yX2_stepOf cX2_stepOf 5 (Option.some Jvm.ClassFile.FieldType.long) : Cond) ∈ AW := aw_of (tb_3 (List.mem_of_getElem? (i := 232) rfl)) rfl
theorem ml_X2_78 : (.methodLink RX2 78 yX0_holds : Cond) ∈ AW := aw_of (tb_3 (List.mem_of_getElem? (i := 233) rfl)) rfl
theorem ml_X2_82 : (.methodLink RX2 82 yX2_stepOfPairs : Cond) ∈ AW := aw_of (tb_3 (List.mem_of_getElem? (i := 234) rfl)) rfl
theorem sm_X2_stepOfPairs : (.static yX2_stepOfPairs : Cond) ∈ AW := aw_of (tb_3 (List.mem_of_getElem? (i := 235) rfl)) rfl
theorem co_X2_stepOfPairs : (.code yX2_stepOfPairs cX2_stepOfPairs 6 (Option.some Jvm.ClassFile.FieldType.long) : Cond) ∈ AW := aw_of (tb_3 (List.mem_of_getElem? (i := 236) rfl)) rfl
theorem ml_X2_71 : (.methodLink RX2 71 yX2_placeBlock : Cond) ∈ AW := aw_of (tb_3 (List.mem_of_getElem? (i := 237) rfl)) rfl
theorem sm_X2_placeBlock : (.static yX2_placeBlock : Cond) ∈ AW := aw_of (tb_3 (List.mem_of_getElem? (i := 238) rfl)) rfl
theorem co_X2_placeBlock : (.code yX2_placeBlock cX2_placeBlock 9 (Option.none : Option Jvm.ClassFile.FieldType) : Cond) ∈ AW := aw_of (tb_3 (List.mem_of_getElem? (i := 239) rfl)) rfl
theorem ml_X2_86 : (.methodLink RX2 86 yX2_addWay : Cond) ∈ AW := aw_of (tb_4 (List.mem_of_getElem? (i := 0) rfl)) rfl
theorem im_X2_addWay : (.instanceMethod yX2_addWay : Cond) ∈ AW := aw_of (tb_4 (List.mem_of_getElem? (i := 2) rfl)) rfl
theorem co_X2_addWay : (.code yX2_addWay cX2_addWay 1 (Option.none : Option Jvm.ClassFile.FieldType) : Cond) ∈ AW := aw_of (tb_4 (List.mem_of_getElem? (i := 3) rfl)) rfl
theorem ml_X2_100 : (.methodLink RX2 100 (⟨"java/lang/System", "arraycopy", "(Ljava/lang/Object;ILjava/lang/Object;II)V"⟩ : MethodName) : Cond) ∈ AW := aw_of (tb_4 (List.mem_of_getElem? (i := 4) rfl)) rfl
theorem sm_J10_arraycopy : (.static (⟨"java/lang/System", "arraycopy", "(Ljava/lang/Object;ILjava/lang/Object;II)V"⟩ : MethodName) : Cond) ∈ AW := aw_of (tb_4 (List.mem_of_getElem? (i := 5) rfl)) rfl
theorem nt_J10_arraycopy : (.native (⟨"java/lang/System", "arraycopy", "(Ljava/lang/Object;ILjava/lang/Object;II)V"⟩ : MethodName) : Cond) ∈ AW := aw_of (tb_4 (List.mem_of_getElem? (i := 6) rfl)) rfl
theorem ml_X2_89 : (.methodLink RX2 89 yJ9_min_7cf53 : Cond) ∈ AW := aw_of (tb_4 (List.mem_of_getElem? (i := 7) rfl)) rfl
theorem kl_X2_95 : (.constantLong RX2 95 (614891469123651720) : Cond) ∈ AW := aw_of (tb_4 (List.mem_of_getElem? (i := 8) rfl)) rfl
theorem ml_X2_97 : (.methodLink RX2 97 yJ9_max_7cf53 : Cond) ∈ AW := aw_of (tb_4 (List.mem_of_getElem? (i := 9) rfl)) rfl
theorem ml_L_105 : (.methodLink RL 105 yX9_part : Cond) ∈ AW := aw_of (tb_4 (List.mem_of_getElem? (i := 10) rfl)) rfl
theorem im_X9_part : (.instanceMethod yX9_part : Cond) ∈ AW := aw_of (tb_4 (List.mem_of_getElem? (i := 11) rfl)) rfl
theorem se_X9_part : (.selects RX9 yX9_part yX9_part : Cond) ∈ AW := aw_of (tb_4 (List.mem_of_getElem? (i := 12) rfl)) rfl
theorem co_X9_part : (.code yX9_part cX9_part 4 (Option.some Jvm.ClassFile.FieldType.int) : Cond) ∈ AW := aw_of (tb_4 (List.mem_of_getElem? (i := 13) rfl)) rfl
theorem ml_X9_271 : (.methodLink RX9 271 yX9_parted : Cond) ∈ AW := aw_of (tb_4 (List.mem_of_getElem? (i := 14) rfl)) rfl
theorem ml_X9_274 : (.methodLink RX9 274 yX2_firstOf : Cond) ∈ AW := aw_of (tb_4 (List.mem_of_getElem? (i := 15) rfl)) rfl
theorem im_X2_firstOf : (.instanceMethod yX2_firstOf : Cond) ∈ AW := aw_of (tb_4 (List.mem_of_getElem? (i := 16) rfl)) rfl
theorem se_X2_firstOf : (.selects RX2 yX2_firstOf yX2_firstOf : Cond) ∈ AW := aw_of (tb_4 (List.mem_of_getElem? (i := 17) rfl)) rfl
theorem co_X2_firstOf : (.code yX2_firstOf cX2_firstOf 2 (Option.some Jvm.ClassFile.FieldType.int) : Cond) ∈ AW := aw_of (tb_4 (List.mem_of_getElem? (i := 18) rfl)) rfl
theorem ml_L_109 : (.methodLink RL 109 yX9_see : Cond) ∈ AW := aw_of (tb_4 (List.mem_of_getElem? (i := 19) rfl)) rfl
theorem im_X9_see : (.instanceMethod yX9_see : Cond) ∈ AW := aw_of (tb_4 (List.mem_of_getElem? (i := 20) rfl)) rfl
theorem se_X9_see : (.selects RX9 yX9_see yX9_see : Cond) ∈ AW := aw_of (tb_4 (List.mem_of_getElem? (i := 21) rfl)) rfl
theorem co_X9_see : (.code yX9_see cX9_see 3 (Option.some Jvm.ClassFile.FieldType.int) : Cond) ∈ AW := aw_of (tb_4 (List.mem_of_getElem? (i := 22) rfl)) rfl
theorem ml_X9_281 : (.methodLink RX9 281 yX3_becomeEmpty : Cond) ∈ AW := aw_of (tb_4 (List.mem_of_getElem? (i := 23) rfl)) rfl
theorem im_X3_becomeEmpty : (.instanceMethod yX3_becomeEmpty : Cond) ∈ AW := aw_of (tb_4 (List.mem_of_getElem? (i := 24) rfl)) rfl
theorem se_X3_becomeEmpty : (.selects RX3 yX3_becomeEmpty yX3_becomeEmpty : Cond) ∈ AW := aw_of (tb_4 (List.mem_of_getElem? (i := 25) rfl)) rfl
theorem co_X3_becomeEmpty : (.code yX3_becomeEmpty cX3_becomeEmpty 1 (Option.some Jvm.ClassFile.FieldType.int) : Cond) ∈ AW := aw_of (tb_4 (List.mem_of_getElem? (i := 26) rfl)) rfl
theorem ml_X9_285 : (.methodLink RX9 285 yX3_addRow : Cond) ∈ AW := aw_of (tb_4 (List.mem_of_getElem? (i := 27) rfl)) rfl
theorem im_X3_addRow : (.instanceMethod yX3_addRow : Cond) ∈ AW := aw_of (tb_4 (List.mem_of_getElem? (i := 28) rfl)) rfl
theorem se_X3_addRow : (.selects RX3 yX3_addRow yX3_addRow : Cond) ∈ AW := aw_of (tb_4 (List.mem_of_getElem? (i := 29) rfl)) rfl
theorem co_X3_addRow : (.code yX3_addRow cX3_addRow 3 (Option.some Jvm.ClassFile.FieldType.int) : Cond) ∈ AW := aw_of (tb_4 (List.mem_of_getElem? (i := 30) rfl)) rfl
theorem ml_L_113 : (.methodLink RL 113 yX9_fits : Cond) ∈ AW := aw_of (tb_4 (List.mem_of_getElem? (i := 31) rfl)) rfl
theorem im_X9_fits : (.instanceMethod yX9_fits : Cond) ∈ AW := aw_of (tb_4 (List.mem_of_getElem? (i := 32) rfl)) rfl
theorem se_X9_fits : (.selects RX9 yX9_fits yX9_fits : Cond) ∈ AW := aw_of (tb_4 (List.mem_of_getElem? (i := 33) rfl)) rfl
theorem co_X9_fits : (.code yX9_fits cX9_fits 9 (Option.some Jvm.ClassFile.FieldType.int) : Cond) ∈ AW := aw_of (tb_4 (List.mem_of_getElem? (i := 34) rfl)) rfl
theorem ml_X9_295 : (.methodLink RX9 295 yX0_holds : Cond) ∈ AW := aw_of (tb_4 (List.mem_of_getElem? (i := 35) rfl)) rfl
theorem ml_X9_298 : (.methodLink RX9 298 yJ9_max_7cf53 : Cond) ∈ AW := aw_of (tb_4 (List.mem_of_getElem? (i := 36) rfl)) rfl
theorem ml_X9_303 : (.methodLink RX9 303 yJ9_min_7cf53 : Cond) ∈ AW := aw_of (tb_4 (List.mem_of_getElem? (i := 37) rfl)) rfl
theorem ml_L_117 : (.methodLink RL 117 yX9_odds : Cond) ∈ AW := aw_of (tb_4 (List.mem_of_getElem? (i := 38) rfl)) rfl
theorem im_X9_odds : (.instanceMethod yX9_odds : Cond) ∈ AW := aw_of (tb_4 (List.mem_of_getElem? (i := 39) rfl)) rfl
theorem se_X9_odds : (.selects RX9 yX9_odds yX9_odds : Cond) ∈ AW := aw_of (tb_4 (List.mem_of_getElem? (i := 40) rfl)) rfl
theorem co_X9_odds : (.code yX9_odds cX9_odds 3 (Option.some Jvm.ClassFile.FieldType.long) : Cond) ∈ AW := aw_of (tb_4 (List.mem_of_getElem? (i := 41) rfl)) rfl
theorem kl_X9_306 : (.constantLong RX9 306 (-9223372036854775808) : Cond) ∈ AW := aw_of (tb_4 (List.mem_of_getElem? (i := 42) rfl)) rfl
theorem ml_X9_308 : (.methodLink RX9 308 yX0_holding : Cond) ∈ AW := aw_of (tb_4 (List.mem_of_getElem? (i := 43) rfl)) rfl
theorem ml_X9_311 : (.methodLink RX9 311 yX9_lowestTerm : Cond) ∈ AW := aw_of (tb_4 (List.mem_of_getElem? (i := 44) rfl)) rfl
theorem sm_X9_lowestTerm : (.static yX9_lowestTerm : Cond) ∈ AW := aw_of (tb_4 (List.mem_of_getElem? (i := 45) rfl)) rfl
theorem co_X9_lowestTerm : (.code yX9_lowestTerm cX9_lowestTerm 4 (Option.some Jvm.ClassFile.FieldType.long) : Cond) ∈ AW := aw_of (tb_4 (List.mem_of_getElem? (i := 46) rfl)) rfl
theorem ml_X9_362 : (.methodLink RX9 362 yX9_greatestDivisor : Cond) ∈ AW := aw_of (tb_4 (List.mem_of_getElem? (i := 47) rfl)) rfl
theorem sm_X9_greatestDivisor : (.static yX9_greatestDivisor : Cond) ∈ AW := aw_of (tb_4 (List.mem_of_getElem? (i := 48) rfl)) rfl
theorem co_X9_greatestDivisor : (.code yX9_greatestDivisor cX9_greatestDivisor 6 (Option.some Jvm.ClassFile.FieldType.int) : Cond) ∈ AW := aw_of (tb_4 (List.mem_of_getElem? (i := 49) rfl)) rfl
theorem ml_L_122 : (.methodLink RL 122 yX9_mean : Cond) ∈ AW := aw_of (tb_4 (List.mem_of_getElem? (i := 50) rfl)) rfl
theorem im_X9_mean : (.instanceMethod yX9_mean : Cond) ∈ AW := aw_of (tb_4 (List.mem_of_getElem? (i := 51) rfl)) rfl
theorem se_X9_mean : (.selects RX9 yX9_mean yX9_mean : Cond) ∈ AW := aw_of (tb_4 (List.mem_of_getElem? (i := 52) rfl)) rfl
theorem co_X9_mean : (.code yX9_mean cX9_mean 2 (Option.some Jvm.ClassFile.FieldType.long) : Cond) ∈ AW := aw_of (tb_4 (List.mem_of_getElem? (i := 53) rfl)) rfl
theorem ml_L_127 : (.methodLink RL 127 yX9_event : Cond) ∈ AW := aw_of (tb_4 (List.mem_of_getElem? (i := 54) rfl)) rfl
theorem im_X9_event : (.instanceMethod yX9_event : Cond) ∈ AW := aw_of (tb_4 (List.mem_of_getElem? (i := 55) rfl)) rfl
theorem se_X9_event : (.selects RX9 yX9_event yX9_event : Cond) ∈ AW := aw_of (tb_4 (List.mem_of_getElem? (i := 56) rfl)) rfl
theorem co_X9_event : (.code yX9_event cX9_event 3 (Option.some Jvm.ClassFile.FieldType.int) : Cond) ∈ AW := aw_of (tb_4 (List.mem_of_getElem? (i := 57) rfl)) rfl
theorem ml_L_131 : (.methodLink RL 131 yX9_after : Cond) ∈ AW := aw_of (tb_4 (List.mem_of_getElem? (i := 58) rfl)) rfl
theorem im_X9_after : (.instanceMethod yX9_after : Cond) ∈ AW := aw_of (tb_4 (List.mem_of_getElem? (i := 59) rfl)) rfl
theorem se_X9_after : (.selects RX9 yX9_after yX9_after : Cond) ∈ AW := aw_of (tb_4 (List.mem_of_getElem? (i := 60) rfl)) rfl
theorem co_X9_after : (.code yX9_after cX9_after 3 (Option.some Jvm.ClassFile.FieldType.int) : Cond) ∈ AW := aw_of (tb_4 (List.mem_of_getElem? (i := 61) rfl)) rfl
theorem ml_X9_318 : (.methodLink RX9 318 yX5_copyFrom : Cond) ∈ AW := aw_of (tb_4 (List.mem_of_getElem? (i := 62) rfl)) rfl
theorem im_X5_copyFrom : (.instanceMethod yX5_copyFrom : Cond) ∈ AW := aw_of (tb_4 (List.mem_of_getElem? (i := 63) rfl)) rfl
theorem se_X5_copyFrom : (.selects RX5 yX5_copyFrom yX5_copyFrom : Cond) ∈ AW := aw_of (tb_4 (List.mem_of_getElem? (i := 64) rfl)) rfl
theorem co_X5_copyFrom : (.code yX5_copyFrom cX5_copyFrom 2 (Option.none : Option Jvm.ClassFile.FieldType) : Cond) ∈ AW := aw_of (tb_4 (List.mem_of_getElem? (i := 65) rfl)) rfl
theorem ml_X5_29 : (.methodLink RX5 29 (⟨"java/lang/System", "arraycopy", "(Ljava/lang/Object;ILjava/lang/Object;II)V"⟩ : MethodName) : Cond) ∈ AW := aw_of (tb_4 (List.mem_of_getElem? (i := 66) rfl)) rfl
theorem ml_X9_321 : (.methodLink RX9 321 yX9_happen : Cond) ∈ AW := aw_of (tb_4 (List.mem_of_getElem? (i := 67) rfl)) rfl
theorem im_X9_happen : (.instanceMethod yX9_happen : Cond) ∈ AW := aw_of (tb_4 (List.mem_of_getElem? (i := 69) rfl)) rfl
theorem co_X9_happen : (.code yX9_happen cX9_happen 3 (Option.none : Option Jvm.ClassFile.FieldType) : Cond) ∈ AW := aw_of (tb_4 (List.mem_of_getElem? (i := 70) rfl)) rfl
theorem ml_L_135 : (.methodLink RL 135 yX9_book : Cond) ∈ AW := aw_of (tb_4 (List.mem_of_getElem? (i := 71) rfl)) rfl
theorem im_X9_book : (.instanceMethod yX9_book : Cond) ∈ AW := aw_of (tb_4 (List.mem_of_getElem? (i := 72) rfl)) rfl
theorem se_X9_book : (.selects RX9 yX9_book yX9_book : Cond) ∈ AW := aw_of (tb_4 (List.mem_of_getElem? (i := 73) rfl)) rfl
theorem co_X9_book : (.code yX9_book cX9_book 3 (Option.some Jvm.ClassFile.FieldType.int) : Cond) ∈ AW := aw_of (tb_4 (List.mem_of_getElem? (i := 74) rfl)) rfl
theorem ml_L_139 : (.methodLink RL 139 yX9_looked : Cond) ∈ AW := aw_of (tb_4 (List.mem_of_getElem? (i := 75) rfl)) rfl
theorem im_X9_looked : (.instanceMethod yX9_looked : Cond) ∈ AW := aw_of (tb_4 (List.mem_of_getElem? (i := 76) rfl)) rfl
theorem se_X9_looked : (.selects RX9 yX9_looked yX9_looked : Cond) ∈ AW := aw_of (tb_4 (List.mem_of_getElem? (i := 77) rfl)) rfl
theorem co_X9_looked : (.code yX9_looked cX9_looked 3 (Option.some Jvm.ClassFile.FieldType.int) : Cond) ∈ AW := aw_of (tb_4 (List.mem_of_getElem? (i := 78) rfl)) rfl
theorem ml_L_143 : (.methodLink RL 143 yX9_judge : Cond) ∈ AW := aw_of (tb_4 (List.mem_of_getElem? (i := 79) rfl)) rfl
theorem im_X9_judge : (.instanceMethod yX9_judge : Cond) ∈ AW := aw_of (tb_4 (List.mem_of_getElem? (i := 80) rfl)) rfl
theorem se_X9_judge : (.selects RX9 yX9_judge yX9_judge : Cond) ∈ AW := aw_of (tb_4 (List.mem_of_getElem? (i := 81) rfl)) rfl
theorem co_X9_judge : (.code yX9_judge cX9_judge 6 (Option.some Jvm.ClassFile.FieldType.int) : Cond) ∈ AW := aw_of (tb_4 (List.mem_of_getElem? (i := 82) rfl)) rfl
theorem ml_X9_327 : (.methodLink RX9 327 yX9_isTape : Cond) ∈ AW := aw_of (tb_4 (List.mem_of_getElem? (i := 83) rfl)) rfl
theorem sm_X9_isTape : (.static yX9_isTape : Cond) ∈ AW := aw_of (tb_4 (List.mem_of_getElem? (i := 84) rfl)) rfl
theorem co_X9_isTape : (.code yX9_isTape cX9_isTape 1 (Option.some Jvm.ClassFile.FieldType.boolean) : Cond) ∈ AW := aw_of (tb_4 (List.mem_of_getElem? (i := 85) rfl)) rfl
theorem ml_X9_330 : (.methodLink RX9 330 yX7_isEmpty : Cond) ∈ AW := aw_of (tb_4 (List.mem_of_getElem? (i := 86) rfl)) rfl
theorem im_X7_isEmpty : (.instanceMethod yX7_isEmpty : Cond) ∈ AW := aw_of (tb_4 (List.mem_of_getElem? (i := 87) rfl)) rfl
theorem se_X7_isEmpty : (.selects RX7 yX7_isEmpty yX7_isEmpty : Cond) ∈ AW := aw_of (tb_4 (List.mem_of_getElem? (i := 88) rfl)) rfl
theorem co_X7_isEmpty : (.code yX7_isEmpty cX7_isEmpty 1 (Option.some Jvm.ClassFile.FieldType.boolean) : Cond) ∈ AW := aw_of (tb_4 (List.mem_of_getElem? (i := 89) rfl)) rfl
theorem ml_L_147 : (.methodLink RL 147 yX9_image : Cond) ∈ AW := aw_of (tb_4 (List.mem_of_getElem? (i := 90) rfl)) rfl
theorem im_X9_image : (.instanceMethod yX9_image : Cond) ∈ AW := aw_of (tb_4 (List.mem_of_getElem? (i := 91) rfl)) rfl
theorem se_X9_image : (.selects RX9 yX9_image yX9_image : Cond) ∈ AW := aw_of (tb_4 (List.mem_of_getElem? (i := 92) rfl)) rfl
theorem co_X9_image : (.code yX9_image cX9_image 1 (Option.some Jvm.ClassFile.FieldType.int) : Cond) ∈ AW := aw_of (tb_4 (List.mem_of_getElem? (i := 93) rfl)) rfl
theorem ml_X9_341 : (.methodLink RX9 341 yX6_copyFrom : Cond) ∈ AW := aw_of (tb_4 (List.mem_of_getElem? (i := 94) rfl)) rfl
theorem im_X6_copyFrom : (.instanceMethod yX6_copyFrom : Cond) ∈ AW := aw_of (tb_4 (List.mem_of_getElem? (i := 95) rfl)) rfl
theorem se_X6_copyFrom : (.selects RX6 yX6_copyFrom yX6_copyFrom : Cond) ∈ AW := aw_of (tb_4 (List.mem_of_getElem? (i := 96) rfl)) rfl
theorem co_X6_copyFrom : (.code yX6_copyFrom cX6_copyFrom 2 (Option.none : Option Jvm.ClassFile.FieldType) : Cond) ∈ AW := aw_of (tb_4 (List.mem_of_getElem? (i := 97) rfl)) rfl
theorem ml_X6_44 : (.methodLink RX6 44 yX0_copyFrom : Cond) ∈ AW := aw_of (tb_4 (List.mem_of_getElem? (i := 98) rfl)) rfl
theorem im_X0_copyFrom : (.instanceMethod yX0_copyFrom : Cond) ∈ AW := aw_of (tb_4 (List.mem_of_getElem? (i := 99) rfl)) rfl
theorem se_X0_copyFrom : (.selects RX0 yX0_copyFrom yX0_copyFrom : Cond) ∈ AW := aw_of (tb_4 (List.mem_of_getElem? (i := 100) rfl)) rfl
theorem co_X0_copyFrom : (.code yX0_copyFrom cX0_copyFrom 2 (Option.none : Option Jvm.ClassFile.FieldType) : Cond) ∈ AW := aw_of (tb_4 (List.mem_of_getElem? (i := 101) rfl)) rfl
theorem ml_X0_37 : (.methodLink RX0 37 yX0_sizes : Cond) ∈ AW := aw_of (tb_4 (List.mem_of_getElem? (i := 102) rfl)) rfl
theorem ml_X0_41 : (.methodLink RX0 41 yX0_become : Cond) ∈ AW := aw_of (tb_4 (List.mem_of_getElem? (i := 103) rfl)) rfl
theorem ml_X6_47 : (.methodLink RX6 47 yX5_copyFrom : Cond) ∈ AW := aw_of (tb_4 (List.mem_of_getElem? (i := 104) rfl)) rfl
theorem ml_X6_50 : (.methodLink RX6 50 yX3_copyFrom : Cond) ∈ AW := aw_of (tb_4 (List.mem_of_getElem? (i := 105) rfl)) rfl
theorem im_X3_copyFrom : (.instanceMethod yX3_copyFrom : Cond) ∈ AW := aw_of (tb_4 (List.mem_of_getElem? (i := 106) rfl)) rfl
theorem se_X3_copyFrom : (.selects RX3 yX3_copyFrom yX3_copyFrom : Cond) ∈ AW := aw_of (tb_4 (List.mem_of_getElem? (i := 107) rfl)) rfl
theorem co_X3_copyFrom : (.code yX3_copyFrom cX3_copyFrom 3 (Option.none : Option Jvm.ClassFile.FieldType) : Cond) ∈ AW := aw_of (tb_4 (List.mem_of_getElem? (i := 108) rfl)) rfl
theorem ml_X3_28 : (.methodLink RX3 28 yX3_addRow : Cond) ∈ AW := aw_of (tb_4 (List.mem_of_getElem? (i := 109) rfl)) rfl
theorem ml_L_151 : (.methodLink RL 151 yX9_undo : Cond) ∈ AW := aw_of (tb_4 (List.mem_of_getElem? (i := 110) rfl)) rfl
theorem im_X9_undo : (.instanceMethod yX9_undo : Cond) ∈ AW := aw_of (tb_4 (List.mem_of_getElem? (i := 111) rfl)) rfl
theorem se_X9_undo : (.selects RX9 yX9_undo yX9_undo : Cond) ∈ AW := aw_of (tb_4 (List.mem_of_getElem? (i := 112) rfl)) rfl
theorem co_X9_undo : (.code yX9_undo cX9_undo 1 (Option.some Jvm.ClassFile.FieldType.int) : Cond) ∈ AW := aw_of (tb_4 (List.mem_of_getElem? (i := 113) rfl)) rfl
theorem ml_L_155 : (.methodLink RL 155 yX9_counted : Cond) ∈ AW := aw_of (tb_4 (List.mem_of_getElem? (i := 114) rfl)) rfl
theorem im_X9_counted : (.instanceMethod yX9_counted : Cond) ∈ AW := aw_of (tb_4 (List.mem_of_getElem? (i := 115) rfl)) rfl
theorem se_X9_counted : (.selects RX9 yX9_counted yX9_counted : Cond) ∈ AW := aw_of (tb_4 (List.mem_of_getElem? (i := 116) rfl)) rfl
theorem co_X9_counted : (.code yX9_counted cX9_counted 2 (Option.some Jvm.ClassFile.FieldType.int) : Cond) ∈ AW := aw_of (tb_4 (List.mem_of_getElem? (i := 117) rfl)) rfl
theorem ml_L_159 : (.methodLink RL 159 yX9_tape : Cond) ∈ AW := aw_of (tb_4 (List.mem_of_getElem? (i := 118) rfl)) rfl
theorem im_X9_tape : (.instanceMethod yX9_tape : Cond) ∈ AW := aw_of (tb_4 (List.mem_of_getElem? (i := 119) rfl)) rfl
theorem se_X9_tape : (.selects RX9 yX9_tape yX9_tape : Cond) ∈ AW := aw_of (tb_4 (List.mem_of_getElem? (i := 120) rfl)) rfl
theorem co_X9_tape : (.code yX9_tape cX9_tape 4 (Option.some Jvm.ClassFile.FieldType.int) : Cond) ∈ AW := aw_of (tb_4 (List.mem_of_getElem? (i := 121) rfl)) rfl
theorem ml_X9_344 : (.methodLink RX9 344 yX7_become : Cond) ∈ AW := aw_of (tb_4 (List.mem_of_getElem? (i := 122) rfl)) rfl
theorem im_X7_become : (.instanceMethod yX7_become : Cond) ∈ AW := aw_of (tb_4 (List.mem_of_getElem? (i := 123) rfl)) rfl
theorem se_X7_become : (.selects RX7 yX7_become yX7_become : Cond) ∈ AW := aw_of (tb_4 (List.mem_of_getElem? (i := 124) rfl)) rfl
theorem co_X7_become : (.code yX7_become cX7_become 4 (Option.none : Option Jvm.ClassFile.FieldType) : Cond) ∈ AW := aw_of (tb_4 (List.mem_of_getElem? (i := 125) rfl)) rfl
theorem ml_X7_20 : (.methodLink RX7 20 yJ9_min_7cf53 : Cond) ∈ AW := aw_of (tb_4 (List.mem_of_getElem? (i := 126) rfl)) rfl
theorem ml_X7_26 : (.methodLink RX7 26 yJ9_max_7cf53 : Cond) ∈ AW := aw_of (tb_4 (List.mem_of_getElem? (i := 127) rfl)) rfl
theorem ml_L_165 : (.methodLink RL 165 yX9_item : Cond) ∈ AW := aw_of (tb_4 (List.mem_of_getElem? (i := 128) rfl)) rfl
theorem im_X9_item : (.instanceMethod yX9_item : Cond) ∈ AW := aw_of (tb_4 (List.mem_of_getElem? (i := 129) rfl)) rfl
theorem se_X9_item : (.selects RX9 yX9_item yX9_item : Cond) ∈ AW := aw_of (tb_4 (List.mem_of_getElem? (i := 130) rfl)) rfl
theorem co_X9_item : (.code yX9_item cX9_item 6 (Option.some Jvm.ClassFile.FieldType.int) : Cond) ∈ AW := aw_of (tb_4 (List.mem_of_getElem? (i := 131) rfl)) rfl
theorem ml_X9_346 : (.methodLink RX9 346 yX7_hasPlace : Cond) ∈ AW := aw_of (tb_4 (List.mem_of_getElem? (i := 132) rfl)) rfl
theorem im_X7_hasPlace : (.instanceMethod yX7_hasPlace : Cond) ∈ AW := aw_of (tb_4 (List.mem_of_getElem? (i := 133) rfl)) rfl
theorem se_X7_hasPlace : (.selects RX7 yX7_hasPlace yX7_hasPlace : Cond) ∈ AW := aw_of (tb_4 (List.mem_of_getElem? (i := 134) rfl)) rfl
theorem co_X7_hasPlace : (.code yX7_hasPlace cX7_hasPlace 2 (Option.some Jvm.ClassFile.FieldType.boolean) : Cond) ∈ AW := aw_of (tb_4 (List.mem_of_getElem? (i := 135) rfl)) rfl
theorem ml_X9_349 : (.methodLink RX9 349 yX7_asItem : Cond) ∈ AW := aw_of (tb_4 (List.mem_of_getElem? (i := 136) rfl)) rfl
theorem im_X7_asItem : (.instanceMethod yX7_asItem : Cond) ∈ AW := aw_of (tb_4 (List.mem_of_getElem? (i := 137) rfl)) rfl
theorem se_X7_asItem : (.selects RX7 yX7_asItem yX7_asItem : Cond) ∈ AW := aw_of (tb_4 (List.mem_of_getElem? (i := 138) rfl)) rfl
theorem co_X7_asItem : (.code yX7_asItem cX7_asItem 3 (Option.some Jvm.ClassFile.FieldType.long) : Cond) ∈ AW := aw_of (tb_4 (List.mem_of_getElem? (i := 139) rfl)) rfl
theorem ml_L_170 : (.methodLink RL 170 yX9_peek : Cond) ∈ AW := aw_of (tb_4 (List.mem_of_getElem? (i := 140) rfl)) rfl
theorem im_X9_peek : (.instanceMethod yX9_peek : Cond) ∈ AW := aw_of (tb_4 (List.mem_of_getElem? (i := 141) rfl)) rfl
theorem se_X9_peek : (.selects RX9 yX9_peek yX9_peek : Cond) ∈ AW := aw_of (tb_4 (List.mem_of_getElem? (i := 142) rfl)) rfl
theorem co_X9_peek : (.code yX9_peek cX9_peek 3 (Option.some Jvm.ClassFile.FieldType.long) : Cond) ∈ AW := aw_of (tb_4 (List.mem_of_getElem? (i := 143) rfl)) rfl
theorem ml_L_174 : (.methodLink RL 174 yX9_shift : Cond) ∈ AW := aw_of (tb_4 (List.mem_of_getElem? (i := 144) rfl)) rfl
theorem im_X9_shift : (.instanceMethod yX9_shift : Cond) ∈ AW := aw_of (tb_4 (List.mem_of_getElem? (i := 145) rfl)) rfl
theorem se_X9_shift : (.selects RX9 yX9_shift yX9_shift : Cond) ∈ AW := aw_of (tb_4 (List.mem_of_getElem? (i := 146) rfl)) rfl
theorem co_X9_shift : (.code yX9_shift cX9_shift 8 (Option.some Jvm.ClassFile.FieldType.int) : Cond) ∈ AW := aw_of (tb_4 (List.mem_of_getElem? (i := 147) rfl)) rfl
theorem ml_X9_353 : (.methodLink RX9 353 yX7_hasPlaces : Cond) ∈ AW := aw_of (tb_4 (List.mem_of_getElem? (i := 148) rfl)) rfl
theorem im_X7_hasPlaces : (.instanceMethod yX7_hasPlaces : Cond) ∈ AW := aw_of (tb_4 (List.mem_of_getElem? (i := 149) rfl)) rfl
theorem se_X7_hasPlaces : (.selects RX7 yX7_hasPlaces yX7_hasPlaces : Cond) ∈ AW := aw_of (tb_4 (List.mem_of_getElem? (i := 150) rfl)) rfl
theorem co_X7_hasPlaces : (.code yX7_hasPlaces cX7_hasPlaces 3 (Option.some Jvm.ClassFile.FieldType.boolean) : Cond) ∈ AW := aw_of (tb_4 (List.mem_of_getElem? (i := 151) rfl)) rfl
theorem ml_X9_356 : (.methodLink RX9 356 (⟨"java/lang/System", "arraycopy", "(Ljava/lang/Object;ILjava/lang/Object;II)V"⟩ : MethodName) : Cond) ∈ AW := aw_of (tb_4 (List.mem_of_getElem? (i := 152) rfl)) rfl
theorem cl_L_10 : (.classLink RL 10 RX10 : Cond) ∈ AW := aw_of (tb_4 (List.mem_of_getElem? (i := 153) rfl)) rfl
theorem ib_X10 : (.instantiable RX10 42 : Cond) ∈ AW := aw_of (tb_4 (List.mem_of_getElem? (i := 154) rfl)) rfl
theorem ml_L_12 : (.methodLink RL 12 yX10_init : Cond) ∈ AW := aw_of (tb_4 (List.mem_of_getElem? (i := 155) rfl)) rfl
theorem im_X10_init : (.instanceMethod yX10_init : Cond) ∈ AW := aw_of (tb_4 (List.mem_of_getElem? (i := 156) rfl)) rfl
theorem co_X10_init : (.code yX10_init cX10_init 1 (Option.none : Option Jvm.ClassFile.FieldType) : Cond) ∈ AW := aw_of (tb_4 (List.mem_of_getElem? (i := 157) rfl)) rfl
theorem ml_X10_3 : (.methodLink RX10 3 objectInit : Cond) ∈ AW := aw_of (tb_4 (List.mem_of_getElem? (i := 158) rfl)) rfl
theorem ml_X10_101 : (.methodLink RX10 101 yX10_lists : Cond) ∈ AW := aw_of (tb_4 (List.mem_of_getElem? (i := 159) rfl)) rfl
theorem im_X10_lists : (.instanceMethod yX10_lists : Cond) ∈ AW := aw_of (tb_4 (List.mem_of_getElem? (i := 161) rfl)) rfl
theorem co_X10_lists : (.code yX10_lists cX10_lists 2 (Option.none : Option Jvm.ClassFile.FieldType) : Cond) ∈ AW := aw_of (tb_4 (List.mem_of_getElem? (i := 162) rfl)) rfl
theorem ml_X10_113 : (.methodLink RX10 113 yX10_size : Cond) ∈ AW := aw_of (tb_4 (List.mem_of_getElem? (i := 163) rfl)) rfl
theorem sm_X10_size : (.static yX10_size : Cond) ∈ AW := aw_of (tb_4 (List.mem_of_getElem? (i := 164) rfl)) rfl
theorem co_X10_size : (.code yX10_size cX10_size 1 (Option.some Jvm.ClassFile.FieldType.int) : Cond) ∈ AW := aw_of (tb_4 (List.mem_of_getElem? (i := 165) rfl)) rfl
theorem ml_X10_104 : (.methodLink RX10 104 yJ6_bitCount_0f7a4 : Cond) ∈ AW := aw_of (tb_4 (List.mem_of_getElem? (i := 166) rfl)) rfl
theorem fl_X10_9 : (.fieldLink RX10 9 "TradedDesignsModel" "v" "I" : Cond) ∈ AW := aw_of (tb_4 (List.mem_of_getElem? (i := 167) rfl)) rfl
theorem fl_X10_15 : (.fieldLink RX10 15 "TradedDesignsModel" "k" "I" : Cond) ∈ AW := aw_of (tb_4 (List.mem_of_getElem? (i := 168) rfl)) rfl
theorem fl_X10_18 : (.fieldLink RX10 18 "TradedDesignsModel" "t" "I" : Cond) ∈ AW := aw_of (tb_4 (List.mem_of_getElem? (i := 169) rfl)) rfl
theorem fl_X10_110 : (.fieldLink RX10 110 "TradedDesignsModel" "blocks" "I" : Cond) ∈ AW := aw_of (tb_4 (List.mem_of_getElem? (i := 170) rfl)) rfl
theorem fl_X10_21 : (.fieldLink RX10 21 "TradedDesignsModel" "points" "[I" : Cond) ∈ AW := aw_of (tb_4 (List.mem_of_getElem? (i := 171) rfl)) rfl
theorem fl_X10_25 : (.fieldLink RX10 25 "TradedDesignsModel" "blockBy" "[I" : Cond) ∈ AW := aw_of (tb_4 (List.mem_of_getElem? (i := 172) rfl)) rfl
theorem fl_X10_28 : (.fieldLink RX10 28 "TradedDesignsModel" "counts" "[I" : Cond) ∈ AW := aw_of (tb_4 (List.mem_of_getElem? (i := 173) rfl)) rfl
theorem fl_X10_31 : (.fieldLink RX10 31 "TradedDesignsModel" "design" "[I" : Cond) ∈ AW := aw_of (tb_4 (List.mem_of_getElem? (i := 174) rfl)) rfl
theorem fl_X10_34 : (.fieldLink RX10 34 "TradedDesignsModel" "held" "[I" : Cond) ∈ AW := aw_of (tb_4 (List.mem_of_getElem? (i := 175) rfl)) rfl
theorem fl_X10_37 : (.fieldLink RX10 37 "TradedDesignsModel" "seenSet" "[I" : Cond) ∈ AW := aw_of (tb_4 (List.mem_of_getElem? (i := 176) rfl)) rfl
theorem fl_X10_40 : (.fieldLink RX10 40 "TradedDesignsModel" "seenSum" "[I" : Cond) ∈ AW := aw_of (tb_4 (List.mem_of_getElem? (i := 177) rfl)) rfl
theorem fl_X10_333 : (.fieldLink RX10 333 "TradedDesignsModel" "seen" "I" : Cond) ∈ AW := aw_of (tb_4 (List.mem_of_getElem? (i := 178) rfl)) rfl
theorem fl_X10_43 : (.fieldLink RX10 43 "TradedDesignsModel" "eventWhat" "[I" : Cond) ∈ AW := aw_of (tb_4 (List.mem_of_getElem? (i := 179) rfl)) rfl
theorem fl_X10_46 : (.fieldLink RX10 46 "TradedDesignsModel" "eventOf" "[I" : Cond) ∈ AW := aw_of (tb_4 (List.mem_of_getElem? (i := 180) rfl)) rfl
theorem fl_X10_349 : (.fieldLink RX10 349 "TradedDesignsModel" "events" "I" : Cond) ∈ AW := aw_of (tb_4 (List.mem_of_getElem? (i := 181) rfl)) rfl
theorem fl_X10_49 : (.fieldLink RX10 49 "TradedDesignsModel" "bookBlock" "[I" : Cond) ∈ AW := aw_of (tb_4 (List.mem_of_getElem? (i := 182) rfl)) rfl
theorem fl_X10_52 : (.fieldLink RX10 52 "TradedDesignsModel" "bookCount" "[I" : Cond) ∈ AW := aw_of (tb_4 (List.mem_of_getElem? (i := 183) rfl)) rfl
theorem fl_X10_363 : (.fieldLink RX10 363 "TradedDesignsModel" "booked" "I" : Cond) ∈ AW := aw_of (tb_4 (List.mem_of_getElem? (i := 184) rfl)) rfl
theorem fl_X10_55 : (.fieldLink RX10 55 "TradedDesignsModel" "text" "[I" : Cond) ∈ AW := aw_of (tb_4 (List.mem_of_getElem? (i := 185) rfl)) rfl
theorem fl_X10_197 : (.fieldLink RX10 197 "TradedDesignsModel" "texts" "I" : Cond) ∈ AW := aw_of (tb_4 (List.mem_of_getElem? (i := 186) rfl)) rfl
theorem fl_X10_200 : (.fieldLink RX10 200 "TradedDesignsModel" "at" "I" : Cond) ∈ AW := aw_of (tb_4 (List.mem_of_getElem? (i := 187) rfl)) rfl
theorem fl_X10_58 : (.fieldLink RX10 58 "TradedDesignsModel" "clauseWhat" "[I" : Cond) ∈ AW := aw_of (tb_4 (List.mem_of_getElem? (i := 188) rfl)) rfl
theorem fl_X10_61 : (.fieldLink RX10 61 "TradedDesignsModel" "clauseNumbers" "[I" : Cond) ∈ AW := aw_of (tb_4 (List.mem_of_getElem? (i := 189) rfl)) rfl
theorem fl_X10_239 : (.fieldLink RX10 239 "TradedDesignsModel" "clauses" "I" : Cond) ∈ AW := aw_of (tb_4 (List.mem_of_getElem? (i := 190) rfl)) rfl
theorem fl_X10_64 : (.fieldLink RX10 64 "TradedDesignsModel" "items" "[J" : Cond) ∈ AW := aw_of (tb_4 (List.mem_of_getElem? (i := 191) rfl)) rfl
theorem fl_X10_68 : (.fieldLink RX10 68 "TradedDesignsModel" "tapeSort" "[I" : Cond) ∈ AW := aw_of (tb_4 (List.mem_of_getElem? (i := 192) rfl)) rfl
theorem fl_X10_71 : (.fieldLink RX10 71 "TradedDesignsModel" "tapeSize" "[I" : Cond) ∈ AW := aw_of (tb_4 (List.mem_of_getElem? (i := 193) rfl)) rfl
theorem fl_X10_74 : (.fieldLink RX10 74 "TradedDesignsModel" "image" "[I" : Cond) ∈ AW := aw_of (tb_4 (List.mem_of_getElem? (i := 194) rfl)) rfl
theorem fl_X10_77 : (.fieldLink RX10 77 "TradedDesignsModel" "ahead" "[I" : Cond) ∈ AW := aw_of (tb_4 (List.mem_of_getElem? (i := 195) rfl)) rfl
theorem fl_X10_368 : (.fieldLink RX10 368 "TradedDesignsModel" "imaged" "Z" : Cond) ∈ AW := aw_of (tb_4 (List.mem_of_getElem? (i := 196) rfl)) rfl
theorem fl_X10_80 : (.fieldLink RX10 80 "TradedDesignsModel" "signs" "[I" : Cond) ∈ AW := aw_of (tb_4 (List.mem_of_getElem? (i := 197) rfl)) rfl
theorem fl_X10_83 : (.fieldLink RX10 83 "TradedDesignsModel" "digits" "[I" : Cond) ∈ AW := aw_of (tb_4 (List.mem_of_getElem? (i := 198) rfl)) rfl
theorem fl_X10_86 : (.fieldLink RX10 86 "TradedDesignsModel" "other" "[I" : Cond) ∈ AW := aw_of (tb_4 (List.mem_of_getElem? (i := 199) rfl)) rfl
theorem fl_X10_89 : (.fieldLink RX10 89 "TradedDesignsModel" "signOf" "[I" : Cond) ∈ AW := aw_of (tb_4 (List.mem_of_getElem? (i := 200) rfl)) rfl
theorem fl_X10_288 : (.fieldLink RX10 288 "TradedDesignsModel" "written" "I" : Cond) ∈ AW := aw_of (tb_4 (List.mem_of_getElem? (i := 201) rfl)) rfl
theorem fl_X10_92 : (.fieldLink RX10 92 "TradedDesignsModel" "label" "[I" : Cond) ∈ AW := aw_of (tb_4 (List.mem_of_getElem? (i := 202) rfl)) rfl
theorem fl_X10_95 : (.fieldLink RX10 95 "TradedDesignsModel" "firstLabel" "[I" : Cond) ∈ AW := aw_of (tb_4 (List.mem_of_getElem? (i := 203) rfl)) rfl
theorem fl_X10_98 : (.fieldLink RX10 98 "TradedDesignsModel" "covers" "[I" : Cond) ∈ AW := aw_of (tb_4 (List.mem_of_getElem? (i := 204) rfl)) rfl
theorem fl_X10_315 : (.fieldLink RX10 315 "TradedDesignsModel" "ways" "I" : Cond) ∈ AW := aw_of (tb_4 (List.mem_of_getElem? (i := 205) rfl)) rfl
theorem fl_X10_304 : (.fieldLink RX10 304 "TradedDesignsModel" "opens" "I" : Cond) ∈ AW := aw_of (tb_4 (List.mem_of_getElem? (i := 206) rfl)) rfl
theorem fl_X10_307 : (.fieldLink RX10 307 "TradedDesignsModel" "openFirst" "I" : Cond) ∈ AW := aw_of (tb_4 (List.mem_of_getElem? (i := 207) rfl)) rfl
theorem fl_X10_310 : (.fieldLink RX10 310 "TradedDesignsModel" "openBy" "I" : Cond) ∈ AW := aw_of (tb_4 (List.mem_of_getElem? (i := 208) rfl)) rfl
theorem ml_L_17 : (.methodLink RL 17 yX10_size_ : Cond) ∈ AW := aw_of (tb_5 (List.mem_of_getElem? (i := 54) rfl)) rfl
theorem im_X10_size_ : (.instanceMethod yX10_size_ : Cond) ∈ AW := aw_of (tb_5 (List.mem_of_getElem? (i := 55) rfl)) rfl
theorem se_X10_size_ : (.selects RX10 yX10_size_ yX10_size_ : Cond) ∈ AW := aw_of (tb_5 (List.mem_of_getElem? (i := 56) rfl)) rfl
theorem co_X10_size_ : (.code yX10_size_ cX10_size_ 5 (Option.some Jvm.ClassFile.FieldType.int) : Cond) ∈ AW := aw_of (tb_5 (List.mem_of_getElem? (i := 57) rfl)) rfl
theorem ml_X10_128 : (.methodLink RX10 128 yX10_isSize : Cond) ∈ AW := aw_of (tb_5 (List.mem_of_getElem? (i := 58) rfl)) rfl
theorem sm_X10_isSize : (.static yX10_isSize : Cond) ∈ AW := aw_of (tb_5 (List.mem_of_getElem? (i := 59) rfl)) rfl
theorem co_X10_isSize : (.code yX10_isSize cX10_isSize 3 (Option.some Jvm.ClassFile.FieldType.boolean) : Cond) ∈ AW := aw_of (tb_5 (List.mem_of_getElem? (i := 60) rfl)) rfl
theorem kl_X10_120 : (.constantLong RX10 120 (4) : Cond) ∈ AW := aw_of (tb_5 (List.mem_of_getElem? (i := 61) rfl)) rfl
theorem kl_X10_122 : (.constantLong RX10 122 (8) : Cond) ∈ AW := aw_of (tb_5 (List.mem_of_getElem? (i := 62) rfl)) rfl
theorem ml_X10_116 : (.methodLink RX10 116 yX10_in : Cond) ∈ AW := aw_of (tb_5 (List.mem_of_getElem? (i := 63) rfl)) rfl
theorem sm_X10_in : (.static yX10_in : Cond) ∈ AW := aw_of (tb_5 (List.mem_of_getElem? (i := 64) rfl)) rfl
theorem co_X10_in : (.code yX10_in cX10_in 6 (Option.some Jvm.ClassFile.FieldType.boolean) : Cond) ∈ AW := aw_of (tb_5 (List.mem_of_getElem? (i := 65) rfl)) rfl
theorem kl_X10_124 : (.constantLong RX10 124 (2) : Cond) ∈ AW := aw_of (tb_5 (List.mem_of_getElem? (i := 66) rfl)) rfl
theorem kl_X10_126 : (.constantLong RX10 126 (3) : Cond) ∈ AW := aw_of (tb_5 (List.mem_of_getElem? (i := 67) rfl)) rfl
theorem ml_X10_132 : (.methodLink RX10 132 yX10_shape : Cond) ∈ AW := aw_of (tb_5 (List.mem_of_getElem? (i := 68) rfl)) rfl
theorem im_X10_shape : (.instanceMethod yX10_shape : Cond) ∈ AW := aw_of (tb_5 (List.mem_of_getElem? (i := 70) rfl)) rfl
theorem co_X10_shape : (.code yX10_shape cX10_shape 1 (Option.some Jvm.ClassFile.FieldType.int) : Cond) ∈ AW := aw_of (tb_5 (List.mem_of_getElem? (i := 71) rfl)) rfl
theorem ml_X10_136 : (.methodLink RX10 136 yX10_becomes : Cond) ∈ AW := aw_of (tb_5 (List.mem_of_getElem? (i := 72) rfl)) rfl
theorem im_X10_becomes : (.instanceMethod yX10_becomes : Cond) ∈ AW := aw_of (tb_5 (List.mem_of_getElem? (i := 74) rfl)) rfl
theorem co_X10_becomes : (.code yX10_becomes cX10_becomes 5 (Option.none : Option Jvm.ClassFile.FieldType) : Cond) ∈ AW := aw_of (tb_5 (List.mem_of_getElem? (i := 75) rfl)) rfl
theorem ml_L_22 : (.methodLink RL 22 yX10_count : Cond) ∈ AW := aw_of (tb_5 (List.mem_of_getElem? (i := 76) rfl)) rfl
theorem im_X10_count : (.instanceMethod yX10_count : Cond) ∈ AW := aw_of (tb_5 (List.mem_of_getElem? (i := 77) rfl)) rfl
theorem se_X10_count : (.selects RX10 yX10_count yX10_count : Cond) ∈ AW := aw_of (tb_5 (List.mem_of_getElem? (i := 78) rfl)) rfl
theorem co_X10_count : (.code yX10_count cX10_count 4 (Option.some Jvm.ClassFile.FieldType.int) : Cond) ∈ AW := aw_of (tb_5 (List.mem_of_getElem? (i := 79) rfl)) rfl
theorem ml_X10_140 : (.methodLink RX10 140 yX10_isBlock : Cond) ∈ AW := aw_of (tb_5 (List.mem_of_getElem? (i := 80) rfl)) rfl
theorem im_X10_isBlock : (.instanceMethod yX10_isBlock : Cond) ∈ AW := aw_of (tb_5 (List.mem_of_getElem? (i := 82) rfl)) rfl
theorem co_X10_isBlock : (.code yX10_isBlock cX10_isBlock 2 (Option.some Jvm.ClassFile.FieldType.boolean) : Cond) ∈ AW := aw_of (tb_5 (List.mem_of_getElem? (i := 83) rfl)) rfl
theorem kl_X10_144 : (.constantLong RX10 144 (-99) : Cond) ∈ AW := aw_of (tb_5 (List.mem_of_getElem? (i := 84) rfl)) rfl
theorem kl_X10_146 : (.constantLong RX10 146 (99) : Cond) ∈ AW := aw_of (tb_5 (List.mem_of_getElem? (i := 85) rfl)) rfl
theorem ml_L_26 : (.methodLink RL 26 yX10_twist : Cond) ∈ AW := aw_of (tb_5 (List.mem_of_getElem? (i := 86) rfl)) rfl
theorem im_X10_twist : (.instanceMethod yX10_twist : Cond) ∈ AW := aw_of (tb_5 (List.mem_of_getElem? (i := 87) rfl)) rfl
theorem se_X10_twist : (.selects RX10 yX10_twist yX10_twist : Cond) ∈ AW := aw_of (tb_5 (List.mem_of_getElem? (i := 88) rfl)) rfl
theorem co_X10_twist : (.code yX10_twist cX10_twist 3 (Option.some Jvm.ClassFile.FieldType.int) : Cond) ∈ AW := aw_of (tb_5 (List.mem_of_getElem? (i := 89) rfl)) rfl
theorem ml_X10_157 : (.methodLink RX10 157 yX10_twists : Cond) ∈ AW := aw_of (tb_5 (List.mem_of_getElem? (i := 90) rfl)) rfl
theorem im_X10_twists : (.instanceMethod yX10_twists : Cond) ∈ AW := aw_of (tb_5 (List.mem_of_getElem? (i := 92) rfl)) rfl
theorem co_X10_twists : (.code yX10_twists cX10_twists 9 (Option.some Jvm.ClassFile.FieldType.boolean) : Cond) ∈ AW := aw_of (tb_5 (List.mem_of_getElem? (i := 93) rfl)) rfl
theorem ml_X10_154 : (.methodLink RX10 154 yX10_isPoint : Cond) ∈ AW := aw_of (tb_5 (List.mem_of_getElem? (i := 94) rfl)) rfl
theorem im_X10_isPoint : (.instanceMethod yX10_isPoint : Cond) ∈ AW := aw_of (tb_5 (List.mem_of_getElem? (i := 96) rfl)) rfl
theorem co_X10_isPoint : (.code yX10_isPoint cX10_isPoint 2 (Option.some Jvm.ClassFile.FieldType.boolean) : Cond) ∈ AW := aw_of (tb_5 (List.mem_of_getElem? (i := 97) rfl)) rfl
theorem kl_X10_160 : (.constantLong RX10 160 (-9) : Cond) ∈ AW := aw_of (tb_5 (List.mem_of_getElem? (i := 98) rfl)) rfl
theorem kl_X10_162 : (.constantLong RX10 162 (9) : Cond) ∈ AW := aw_of (tb_5 (List.mem_of_getElem? (i := 99) rfl)) rfl
theorem ml_X10_164 : (.methodLink RX10 164 yX10_adds : Cond) ∈ AW := aw_of (tb_5 (List.mem_of_getElem? (i := 100) rfl)) rfl
theorem im_X10_adds : (.instanceMethod yX10_adds : Cond) ∈ AW := aw_of (tb_5 (List.mem_of_getElem? (i := 102) rfl)) rfl
theorem co_X10_adds : (.code yX10_adds cX10_adds 3 (Option.some Jvm.ClassFile.FieldType.boolean) : Cond) ∈ AW := aw_of (tb_5 (List.mem_of_getElem? (i := 103) rfl)) rfl
theorem ml_X10_167 : (.methodLink RX10 167 yX10_volume : Cond) ∈ AW := aw_of (tb_5 (List.mem_of_getElem? (i := 104) rfl)) rfl
theorem im_X10_volume : (.instanceMethod yX10_volume : Cond) ∈ AW := aw_of (tb_5 (List.mem_of_getElem? (i := 106) rfl)) rfl
theorem co_X10_volume : (.code yX10_volume cX10_volume 3 (Option.some Jvm.ClassFile.FieldType.int) : Cond) ∈ AW := aw_of (tb_5 (List.mem_of_getElem? (i := 107) rfl)) rfl
theorem ml_X10_148 : (.methodLink RX10 148 yJ9_max_7cf53 : Cond) ∈ AW := aw_of (tb_5 (List.mem_of_getElem? (i := 108) rfl)) rfl
theorem ml_L_31 : (.methodLink RL 31 yX10_turn : Cond) ∈ AW := aw_of (tb_5 (List.mem_of_getElem? (i := 109) rfl)) rfl
theorem im_X10_turn : (.instanceMethod yX10_turn : Cond) ∈ AW := aw_of (tb_5 (List.mem_of_getElem? (i := 110) rfl)) rfl
theorem se_X10_turn : (.selects RX10 yX10_turn yX10_turn : Cond) ∈ AW := aw_of (tb_5 (List.mem_of_getElem? (i := 111) rfl)) rfl
theorem co_X10_turn : (.code yX10_turn cX10_turn 2 (Option.some Jvm.ClassFile.FieldType.int) : Cond) ∈ AW := aw_of (tb_5 (List.mem_of_getElem? (i := 112) rfl)) rfl
theorem ml_L_35 : (.methodLink RL 35 yX10_clear : Cond) ∈ AW := aw_of (tb_5 (List.mem_of_getElem? (i := 113) rfl)) rfl
theorem im_X10_clear : (.instanceMethod yX10_clear : Cond) ∈ AW := aw_of (tb_5 (List.mem_of_getElem? (i := 114) rfl)) rfl
theorem se_X10_clear : (.selects RX10 yX10_clear yX10_clear : Cond) ∈ AW := aw_of (tb_5 (List.mem_of_getElem? (i := 115) rfl)) rfl
theorem co_X10_clear : (.code yX10_clear cX10_clear 3 (Option.some Jvm.ClassFile.FieldType.int) : Cond) ∈ AW := aw_of (tb_5 (List.mem_of_getElem? (i := 116) rfl)) rfl
theorem ml_L_39 : (.methodLink RL 39 yX10_put : Cond) ∈ AW := aw_of (tb_5 (List.mem_of_getElem? (i := 117) rfl)) rfl
theorem im_X10_put : (.instanceMethod yX10_put : Cond) ∈ AW := aw_of (tb_5 (List.mem_of_getElem? (i := 118) rfl)) rfl
theorem se_X10_put : (.selects RX10 yX10_put yX10_put : Cond) ∈ AW := aw_of (tb_5 (List.mem_of_getElem? (i := 119) rfl)) rfl
theorem co_X10_put : (.code yX10_put cX10_put 4 (Option.some Jvm.ClassFile.FieldType.int) : Cond) ∈ AW := aw_of (tb_5 (List.mem_of_getElem? (i := 120) rfl)) rfl
theorem ml_L_43 : (.methodLink RL 43 yX10_swap : Cond) ∈ AW := aw_of (tb_5 (List.mem_of_getElem? (i := 121) rfl)) rfl
theorem im_X10_swap : (.instanceMethod yX10_swap : Cond) ∈ AW := aw_of (tb_5 (List.mem_of_getElem? (i := 122) rfl)) rfl
theorem se_X10_swap : (.selects RX10 yX10_swap yX10_swap : Cond) ∈ AW := aw_of (tb_5 (List.mem_of_getElem? (i := 123) rfl)) rfl
theorem co_X10_swap : (.code yX10_swap cX10_swap 1 (Option.some Jvm.ClassFile.FieldType.int) : Cond) ∈ AW := aw_of (tb_5 (List.mem_of_getElem? (i := 124) rfl)) rfl
theorem ml_X10_182 : (.methodLink RX10 182 yX10_maySwap : Cond) ∈ AW := aw_of (tb_5 (List.mem_of_getElem? (i := 125) rfl)) rfl
theorem im_X10_maySwap : (.instanceMethod yX10_maySwap : Cond) ∈ AW := aw_of (tb_5 (List.mem_of_getElem? (i := 127) rfl)) rfl
theorem co_X10_maySwap : (.code yX10_maySwap cX10_maySwap 3 (Option.some Jvm.ClassFile.FieldType.boolean) : Cond) ∈ AW := aw_of (tb_5 (List.mem_of_getElem? (i := 128) rfl)) rfl
theorem ml_X10_175 : (.methodLink RX10 175 yX10_isPlain : Cond) ∈ AW := aw_of (tb_5 (List.mem_of_getElem? (i := 129) rfl)) rfl
theorem im_X10_isPlain : (.instanceMethod yX10_isPlain : Cond) ∈ AW := aw_of (tb_5 (List.mem_of_getElem? (i := 131) rfl)) rfl
theorem co_X10_isPlain : (.code yX10_isPlain cX10_isPlain 2 (Option.some Jvm.ClassFile.FieldType.boolean) : Cond) ∈ AW := aw_of (tb_5 (List.mem_of_getElem? (i := 132) rfl)) rfl
theorem kl_X10_173 : (.constantLong RX10 173 (-1) : Cond) ∈ AW := aw_of (tb_5 (List.mem_of_getElem? (i := 133) rfl)) rfl
theorem ml_X10_179 : (.methodLink RX10 179 yX10_isTrade : Cond) ∈ AW := aw_of (tb_5 (List.mem_of_getElem? (i := 134) rfl)) rfl
theorem im_X10_isTrade : (.instanceMethod yX10_isTrade : Cond) ∈ AW := aw_of (tb_5 (List.mem_of_getElem? (i := 136) rfl)) rfl
theorem co_X10_isTrade : (.code yX10_isTrade cX10_isTrade 2 (Option.some Jvm.ClassFile.FieldType.boolean) : Cond) ∈ AW := aw_of (tb_5 (List.mem_of_getElem? (i := 137) rfl)) rfl
theorem ml_X10_170 : (.methodLink RX10 170 yX10_sumOf : Cond) ∈ AW := aw_of (tb_5 (List.mem_of_getElem? (i := 138) rfl)) rfl
theorem im_X10_sumOf : (.instanceMethod yX10_sumOf : Cond) ∈ AW := aw_of (tb_5 (List.mem_of_getElem? (i := 140) rfl)) rfl
theorem co_X10_sumOf : (.code yX10_sumOf cX10_sumOf 4 (Option.some Jvm.ClassFile.FieldType.int) : Cond) ∈ AW := aw_of (tb_5 (List.mem_of_getElem? (i := 141) rfl)) rfl
theorem ml_X10_185 : (.methodLink RX10 185 yX10_swaps : Cond) ∈ AW := aw_of (tb_5 (List.mem_of_getElem? (i := 142) rfl)) rfl
theorem im_X10_swaps : (.instanceMethod yX10_swaps : Cond) ∈ AW := aw_of (tb_5 (List.mem_of_getElem? (i := 144) rfl)) rfl
theorem co_X10_swaps : (.code yX10_swaps cX10_swaps 2 (Option.none : Option Jvm.ClassFile.FieldType) : Cond) ∈ AW := aw_of (tb_5 (List.mem_of_getElem? (i := 145) rfl)) rfl
theorem ml_X10_188 : (.methodLink RX10 188 yX10_inDesign : Cond) ∈ AW := aw_of (tb_5 (List.mem_of_getElem? (i := 146) rfl)) rfl
theorem im_X10_inDesign : (.instanceMethod yX10_inDesign : Cond) ∈ AW := aw_of (tb_5 (List.mem_of_getElem? (i := 148) rfl)) rfl
theorem co_X10_inDesign : (.code yX10_inDesign cX10_inDesign 3 (Option.some Jvm.ClassFile.FieldType.int) : Cond) ∈ AW := aw_of (tb_5 (List.mem_of_getElem? (i := 149) rfl)) rfl
theorem ml_L_47 : (.methodLink RL 47 yX10_keep : Cond) ∈ AW := aw_of (tb_5 (List.mem_of_getElem? (i := 150) rfl)) rfl
theorem im_X10_keep : (.instanceMethod yX10_keep : Cond) ∈ AW := aw_of (tb_5 (List.mem_of_getElem? (i := 151) rfl)) rfl
theorem se_X10_keep : (.selects RX10 yX10_keep yX10_keep : Cond) ∈ AW := aw_of (tb_5 (List.mem_of_getElem? (i := 152) rfl)) rfl
theorem co_X10_keep : (.code yX10_keep cX10_keep 2 (Option.some Jvm.ClassFile.FieldType.int) : Cond) ∈ AW := aw_of (tb_5 (List.mem_of_getElem? (i := 153) rfl)) rfl
theorem ml_L_51 : (.methodLink RL 51 yX10_differ : Cond) ∈ AW := aw_of (tb_5 (List.mem_of_getElem? (i := 154) rfl)) rfl
theorem im_X10_differ : (.instanceMethod yX10_differ : Cond) ∈ AW := aw_of (tb_5 (List.mem_of_getElem? (i := 155) rfl)) rfl
theorem se_X10_differ : (.selects RX10 yX10_differ yX10_differ : Cond) ∈ AW := aw_of (tb_5 (List.mem_of_getElem? (i := 156) rfl)) rfl
theorem co_X10_differ : (.code yX10_differ cX10_differ 2 (Option.some Jvm.ClassFile.FieldType.int) : Cond) ∈ AW := aw_of (tb_5 (List.mem_of_getElem? (i := 157) rfl)) rfl
theorem ml_L_55 : (.methodLink RL 55 yX10_exchange : Cond) ∈ AW := aw_of (tb_5 (List.mem_of_getElem? (i := 158) rfl)) rfl
theorem im_X10_exchange : (.instanceMethod yX10_exchange : Cond) ∈ AW := aw_of (tb_5 (List.mem_of_getElem? (i := 159) rfl)) rfl
theorem se_X10_exchange : (.selects RX10 yX10_exchange yX10_exchange : Cond) ∈ AW := aw_of (tb_5 (List.mem_of_getElem? (i := 160) rfl)) rfl
theorem co_X10_exchange : (.code yX10_exchange cX10_exchange 3 (Option.some Jvm.ClassFile.FieldType.int) : Cond) ∈ AW := aw_of (tb_5 (List.mem_of_getElem? (i := 161) rfl)) rfl
theorem ml_X10_191 : (.methodLink RX10 191 yX10_exchanges : Cond) ∈ AW := aw_of (tb_5 (List.mem_of_getElem? (i := 162) rfl)) rfl
theorem im_X10_exchanges : (.instanceMethod yX10_exchanges : Cond) ∈ AW := aw_of (tb_5 (List.mem_of_getElem? (i := 164) rfl)) rfl
theorem co_X10_exchanges : (.code yX10_exchanges cX10_exchanges 7 (Option.none : Option Jvm.ClassFile.FieldType) : Cond) ∈ AW := aw_of (tb_5 (List.mem_of_getElem? (i := 165) rfl)) rfl
theorem ml_L_60 : (.methodLink RL 60 yX10_feed : Cond) ∈ AW := aw_of (tb_5 (List.mem_of_getElem? (i := 166) rfl)) rfl
theorem im_X10_feed : (.instanceMethod yX10_feed : Cond) ∈ AW := aw_of (tb_5 (List.mem_of_getElem? (i := 167) rfl)) rfl
theorem se_X10_feed : (.selects RX10 yX10_feed yX10_feed : Cond) ∈ AW := aw_of (tb_5 (List.mem_of_getElem? (i := 168) rfl)) rfl
theorem co_X10_feed : (.code yX10_feed cX10_feed 2 (Option.some Jvm.ClassFile.FieldType.int) : Cond) ∈ AW := aw_of (tb_5 (List.mem_of_getElem? (i := 169) rfl)) rfl
theorem kl_X10_195 : (.constantLong RX10 195 (127) : Cond) ∈ AW := aw_of (tb_5 (List.mem_of_getElem? (i := 170) rfl)) rfl
theorem ml_L_64 : (.methodLink RL 64 yX10_read : Cond) ∈ AW := aw_of (tb_5 (List.mem_of_getElem? (i := 171) rfl)) rfl
theorem im_X10_read : (.instanceMethod yX10_read : Cond) ∈ AW := aw_of (tb_5 (List.mem_of_getElem? (i := 172) rfl)) rfl
theorem se_X10_read : (.selects RX10 yX10_read yX10_read : Cond) ∈ AW := aw_of (tb_5 (List.mem_of_getElem? (i := 173) rfl)) rfl
theorem co_X10_read : (.code yX10_read cX10_read 4 (Option.some Jvm.ClassFile.FieldType.int) : Cond) ∈ AW := aw_of (tb_5 (List.mem_of_getElem? (i := 174) rfl)) rfl
theorem ml_X10_269 : (.methodLink RX10 269 yX10_reads : Cond) ∈ AW := aw_of (tb_5 (List.mem_of_getElem? (i := 175) rfl)) rfl
theorem im_X10_reads : (.instanceMethod yX10_reads : Cond) ∈ AW := aw_of (tb_5 (List.mem_of_getElem? (i := 177) rfl)) rfl
theorem co_X10_reads : (.code yX10_reads cX10_reads 3 (Option.some Jvm.ClassFile.FieldType.boolean) : Cond) ∈ AW := aw_of (tb_5 (List.mem_of_getElem? (i := 178) rfl)) rfl
theorem ml_X10_242 : (.methodLink RX10 242 yX10_what : Cond) ∈ AW := aw_of (tb_5 (List.mem_of_getElem? (i := 179) rfl)) rfl
theorem im_X10_what : (.instanceMethod yX10_what : Cond) ∈ AW := aw_of (tb_5 (List.mem_of_getElem? (i := 181) rfl)) rfl
theorem co_X10_what : (.code yX10_what cX10_what 1 (Option.some Jvm.ClassFile.FieldType.int) : Cond) ∈ AW := aw_of (tb_5 (List.mem_of_getElem? (i := 182) rfl)) rfl
theorem ml_X10_208 : (.methodLink RX10 208 yX10_sign : Cond) ∈ AW := aw_of (tb_5 (List.mem_of_getElem? (i := 183) rfl)) rfl
theorem im_X10_sign : (.instanceMethod yX10_sign : Cond) ∈ AW := aw_of (tb_5 (List.mem_of_getElem? (i := 185) rfl)) rfl
theorem co_X10_sign : (.code yX10_sign cX10_sign 1 (Option.some Jvm.ClassFile.FieldType.int) : Cond) ∈ AW := aw_of (tb_5 (List.mem_of_getElem? (i := 186) rfl)) rfl
theorem ml_X10_217 : (.methodLink RX10 217 yX10_word : Cond) ∈ AW := aw_of (tb_5 (List.mem_of_getElem? (i := 188) rfl)) rfl
theorem im_X10_word : (.instanceMethod yX10_word : Cond) ∈ AW := aw_of (tb_5 (List.mem_of_getElem? (i := 190) rfl)) rfl
theorem co_X10_word : (.code yX10_word cX10_word 3 (Option.some Jvm.ClassFile.FieldType.boolean) : Cond) ∈ AW := aw_of (tb_5 (List.mem_of_getElem? (i := 191) rfl)) rfl
theorem ml_X10_203 : (.methodLink RX10 203 yJ0_length_8abf5 : Cond) ∈ AW := aw_of (tb_5 (List.mem_of_getElem? (i := 192) rfl)) rfl
theorem ml_X10_211 : (.methodLink RX10 211 yJ0_charAt_5068e : Cond) ∈ AW := aw_of (tb_5 (List.mem_of_getElem? (i := 193) rfl)) rfl
theorem ml_X10_245 : (.methodLink RX10 245 yX10_numbersOf : Cond) ∈ AW := aw_of (tb_5 (List.mem_of_getElem? (i := 201) rfl)) rfl
theorem sm_X10_numbersOf : (.static yX10_numbersOf : Cond) ∈ AW := aw_of (tb_5 (List.mem_of_getElem? (i := 202) rfl)) rfl
theorem co_X10_numbersOf : (.code yX10_numbersOf cX10_numbersOf 1 (Option.some Jvm.ClassFile.FieldType.int) : Cond) ∈ AW := aw_of (tb_5 (List.mem_of_getElem? (i := 203) rfl)) rfl
theorem ml_X10_248 : (.methodLink RX10 248 yX10_numeral : Cond) ∈ AW := aw_of (tb_5 (List.mem_of_getElem? (i := 204) rfl)) rfl
theorem im_X10_numeral : (.instanceMethod yX10_numeral : Cond) ∈ AW := aw_of (tb_5 (List.mem_of_getElem? (i := 206) rfl)) rfl
theorem co_X10_numeral : (.code yX10_numeral cX10_numeral 5 (Option.some Jvm.ClassFile.FieldType.boolean) : Cond) ∈ AW := aw_of (tb_5 (List.mem_of_getElem? (i := 207) rfl)) rfl
theorem kl_X10_235 : (.constantLong RX10 235 (48) : Cond) ∈ AW := aw_of (tb_5 (List.mem_of_getElem? (i := 208) rfl)) rfl
theorem kl_X10_237 : (.constantLong RX10 237 (57) : Cond) ∈ AW := aw_of (tb_5 (List.mem_of_getElem? (i := 209) rfl)) rfl
theorem ml_X10_272 : (.methodLink RX10 272 yX10_does : Cond) ∈ AW := aw_of (tb_5 (List.mem_of_getElem? (i := 210) rfl)) rfl
theorem im_X10_does : (.instanceMethod yX10_does : Cond) ∈ AW := aw_of (tb_5 (List.mem_of_getElem? (i := 212) rfl)) rfl
theorem co_X10_does : (.code yX10_does cX10_does 4 (Option.some Jvm.ClassFile.FieldType.boolean) : Cond) ∈ AW := aw_of (tb_5 (List.mem_of_getElem? (i := 213) rfl)) rfl
theorem ml_X10_251 : (.methodLink RX10 251 yX10_size_ : Cond) ∈ AW := aw_of (tb_5 (List.mem_of_getElem? (i := 214) rfl)) rfl
theorem ml_X10_254 : (.methodLink RX10 254 yX10_count : Cond) ∈ AW := aw_of (tb_5 (List.mem_of_getElem? (i := 215) rfl)) rfl
theorem ml_X10_256 : (.methodLink RX10 256 yX10_twist : Cond) ∈ AW := aw_of (tb_5 (List.mem_of_getElem? (i := 216) rfl)) rfl
theorem ml_X10_259 : (.methodLink RX10 259 yX10_turn : Cond) ∈ AW := aw_of (tb_5 (List.mem_of_getElem? (i := 217) rfl)) rfl
theorem ml_X10_262 : (.methodLink RX10 262 yX10_swap : Cond) ∈ AW := aw_of (tb_5 (List.mem_of_getElem? (i := 218) rfl)) rfl
theorem ml_X10_265 : (.methodLink RX10 265 yX10_keep : Cond) ∈ AW := aw_of (tb_5 (List.mem_of_getElem? (i := 219) rfl)) rfl
theorem ml_X10_267 : (.methodLink RX10 267 yX10_differ : Cond) ∈ AW := aw_of (tb_5 (List.mem_of_getElem? (i := 220) rfl)) rfl
theorem ml_L_68 : (.methodLink RL 68 yX10_told : Cond) ∈ AW := aw_of (tb_5 (List.mem_of_getElem? (i := 221) rfl)) rfl
theorem im_X10_told : (.instanceMethod yX10_told : Cond) ∈ AW := aw_of (tb_5 (List.mem_of_getElem? (i := 222) rfl)) rfl
theorem se_X10_told : (.selects RX10 yX10_told yX10_told : Cond) ∈ AW := aw_of (tb_5 (List.mem_of_getElem? (i := 223) rfl)) rfl
theorem co_X10_told : (.code yX10_told cX10_told 4 (Option.some Jvm.ClassFile.FieldType.int) : Cond) ∈ AW := aw_of (tb_5 (List.mem_of_getElem? (i := 224) rfl)) rfl
theorem ml_X10_278 : (.methodLink RX10 278 yX10_foundation : Cond) ∈ AW := aw_of (tb_5 (List.mem_of_getElem? (i := 225) rfl)) rfl
theorem im_X10_foundation : (.instanceMethod yX10_foundation : Cond) ∈ AW := aw_of (tb_5 (List.mem_of_getElem? (i := 227) rfl)) rfl
theorem co_X10_foundation : (.code yX10_foundation cX10_foundation 3 (Option.some Jvm.ClassFile.FieldType.int) : Cond) ∈ AW := aw_of (tb_5 (List.mem_of_getElem? (i := 228) rfl)) rfl
theorem ml_X10_281 : (.methodLink RX10 281 yX10_index : Cond) ∈ AW := aw_of (tb_5 (List.mem_of_getElem? (i := 229) rfl)) rfl
theorem im_X10_index : (.instanceMethod yX10_index : Cond) ∈ AW := aw_of (tb_5 (List.mem_of_getElem? (i := 231) rfl)) rfl
theorem co_X10_index : (.code yX10_index cX10_index 4 (Option.some Jvm.ClassFile.FieldType.int) : Cond) ∈ AW := aw_of (tb_5 (List.mem_of_getElem? (i := 232) rfl)) rfl
theorem ml_X10_275 : (.methodLink RX10 275 yX10_coverOf : Cond) ∈ AW := aw_of (tb_5 (List.mem_of_getElem? (i := 233) rfl)) rfl
theorem im_X10_coverOf : (.instanceMethod yX10_coverOf : Cond) ∈ AW := aw_of (tb_5 (List.mem_of_getElem? (i := 235) rfl)) rfl
theorem co_X10_coverOf : (.code yX10_coverOf cX10_coverOf 4 (Option.some Jvm.ClassFile.FieldType.int) : Cond) ∈ AW := aw_of (tb_5 (List.mem_of_getElem? (i := 236) rfl)) rfl
theorem ml_L_72 : (.methodLink RL 72 yX10_block : Cond) ∈ AW := aw_of (tb_5 (List.mem_of_getElem? (i := 237) rfl)) rfl
theorem im_X10_block : (.instanceMethod yX10_block : Cond) ∈ AW := aw_of (tb_5 (List.mem_of_getElem? (i := 238) rfl)) rfl
theorem se_X10_block : (.selects RX10 yX10_block yX10_block : Cond) ∈ AW := aw_of (tb_5 (List.mem_of_getElem? (i := 239) rfl)) rfl
theorem co_X10_block : (.code yX10_block cX10_block 2 (Option.some Jvm.ClassFile.FieldType.int) : Cond) ∈ AW := aw_of (tb_6 (List.mem_of_getElem? (i := 0) rfl)) rfl
theorem ml_L_76 : (.methodLink RL 76 yX10_number : Cond) ∈ AW := aw_of (tb_6 (List.mem_of_getElem? (i := 1) rfl)) rfl
theorem im_X10_number : (.instanceMethod yX10_number : Cond) ∈ AW := aw_of (tb_6 (List.mem_of_getElem? (i := 2) rfl)) rfl
theorem se_X10_number : (.selects RX10 yX10_number yX10_number : Cond) ∈ AW := aw_of (tb_6 (List.mem_of_getElem? (i := 3) rfl)) rfl
theorem co_X10_number : (.code yX10_number cX10_number 2 (Option.some Jvm.ClassFile.FieldType.int) : Cond) ∈ AW := aw_of (tb_6 (List.mem_of_getElem? (i := 4) rfl)) rfl
theorem ml_L_80 : (.methodLink RL 80 yX10_of : Cond) ∈ AW := aw_of (tb_6 (List.mem_of_getElem? (i := 5) rfl)) rfl
theorem im_X10_of : (.instanceMethod yX10_of : Cond) ∈ AW := aw_of (tb_6 (List.mem_of_getElem? (i := 6) rfl)) rfl
theorem se_X10_of : (.selects RX10 yX10_of yX10_of : Cond) ∈ AW := aw_of (tb_6 (List.mem_of_getElem? (i := 7) rfl)) rfl
theorem co_X10_of : (.code yX10_of cX10_of 3 (Option.some Jvm.ClassFile.FieldType.int) : Cond) ∈ AW := aw_of (tb_6 (List.mem_of_getElem? (i := 8) rfl)) rfl
theorem ml_L_84 : (.methodLink RL 84 yX10_sum : Cond) ∈ AW := aw_of (tb_6 (List.mem_of_getElem? (i := 9) rfl)) rfl
theorem im_X10_sum : (.instanceMethod yX10_sum : Cond) ∈ AW := aw_of (tb_6 (List.mem_of_getElem? (i := 10) rfl)) rfl
theorem se_X10_sum : (.selects RX10 yX10_sum yX10_sum : Cond) ∈ AW := aw_of (tb_6 (List.mem_of_getElem? (i := 11) rfl)) rfl
theorem co_X10_sum : (.code yX10_sum cX10_sum 2 (Option.some Jvm.ClassFile.FieldType.int) : Cond) ∈ AW := aw_of (tb_6 (List.mem_of_getElem? (i := 12) rfl)) rfl
theorem ml_X10_284 : (.methodLink RX10 284 yX10_isSet : Cond) ∈ AW := aw_of (tb_6 (List.mem_of_getElem? (i := 13) rfl)) rfl
theorem im_X10_isSet : (.instanceMethod yX10_isSet : Cond) ∈ AW := aw_of (tb_6 (List.mem_of_getElem? (i := 15) rfl)) rfl
theorem co_X10_isSet : (.code yX10_isSet cX10_isSet 3 (Option.some Jvm.ClassFile.FieldType.boolean) : Cond) ∈ AW := aw_of (tb_6 (List.mem_of_getElem? (i := 16) rfl)) rfl
theorem ml_L_88 : (.methodLink RL 88 yX10_amiss : Cond) ∈ AW := aw_of (tb_6 (List.mem_of_getElem? (i := 17) rfl)) rfl
theorem im_X10_amiss : (.instanceMethod yX10_amiss : Cond) ∈ AW := aw_of (tb_6 (List.mem_of_getElem? (i := 18) rfl)) rfl
theorem se_X10_amiss : (.selects RX10 yX10_amiss yX10_amiss : Cond) ∈ AW := aw_of (tb_6 (List.mem_of_getElem? (i := 19) rfl)) rfl
theorem co_X10_amiss : (.code yX10_amiss cX10_amiss 3 (Option.some Jvm.ClassFile.FieldType.int) : Cond) ∈ AW := aw_of (tb_6 (List.mem_of_getElem? (i := 20) rfl)) rfl
theorem ml_L_92 : (.methodLink RL 92 yX10_cover : Cond) ∈ AW := aw_of (tb_6 (List.mem_of_getElem? (i := 21) rfl)) rfl
theorem im_X10_cover : (.instanceMethod yX10_cover : Cond) ∈ AW := aw_of (tb_6 (List.mem_of_getElem? (i := 22) rfl)) rfl
theorem se_X10_cover : (.selects RX10 yX10_cover yX10_cover : Cond) ∈ AW := aw_of (tb_6 (List.mem_of_getElem? (i := 23) rfl)) rfl
theorem co_X10_cover : (.code yX10_cover cX10_cover 2 (Option.some Jvm.ClassFile.FieldType.int) : Cond) ∈ AW := aw_of (tb_6 (List.mem_of_getElem? (i := 24) rfl)) rfl
theorem ml_L_96 : (.methodLink RL 96 yX10_written : Cond) ∈ AW := aw_of (tb_6 (List.mem_of_getElem? (i := 25) rfl)) rfl
theorem im_X10_written : (.instanceMethod yX10_written : Cond) ∈ AW := aw_of (tb_6 (List.mem_of_getElem? (i := 26) rfl)) rfl
theorem se_X10_written : (.selects RX10 yX10_written yX10_written : Cond) ∈ AW := aw_of (tb_6 (List.mem_of_getElem? (i := 27) rfl)) rfl
theorem co_X10_written : (.code yX10_written cX10_written 2 (Option.some Jvm.ClassFile.FieldType.int) : Cond) ∈ AW := aw_of (tb_6 (List.mem_of_getElem? (i := 28) rfl)) rfl
theorem ml_X10_298 : (.methodLink RX10 298 yX10_writes : Cond) ∈ AW := aw_of (tb_6 (List.mem_of_getElem? (i := 29) rfl)) rfl
theorem im_X10_writes : (.instanceMethod yX10_writes : Cond) ∈ AW := aw_of (tb_6 (List.mem_of_getElem? (i := 31) rfl)) rfl
theorem co_X10_writes : (.code yX10_writes cX10_writes 5 (Option.none : Option Jvm.ClassFile.FieldType) : Cond) ∈ AW := aw_of (tb_6 (List.mem_of_getElem? (i := 32) rfl)) rfl
theorem ml_X10_291 : (.methodLink RX10 291 yX10_write : Cond) ∈ AW := aw_of (tb_6 (List.mem_of_getElem? (i := 33) rfl)) rfl
theorem im_X10_write : (.instanceMethod yX10_write : Cond) ∈ AW := aw_of (tb_6 (List.mem_of_getElem? (i := 35) rfl)) rfl
theorem co_X10_write : (.code yX10_write cX10_write 2 (Option.none : Option Jvm.ClassFile.FieldType) : Cond) ∈ AW := aw_of (tb_6 (List.mem_of_getElem? (i := 36) rfl)) rfl
theorem ml_X10_295 : (.methodLink RX10 295 yJ9_abs_0f7a4 : Cond) ∈ AW := aw_of (tb_6 (List.mem_of_getElem? (i := 37) rfl)) rfl
theorem ml_L_100 : (.methodLink RL 100 yX10_open : Cond) ∈ AW := aw_of (tb_6 (List.mem_of_getElem? (i := 38) rfl)) rfl
theorem im_X10_open : (.instanceMethod yX10_open : Cond) ∈ AW := aw_of (tb_6 (List.mem_of_getElem? (i := 39) rfl)) rfl
theorem se_X10_open : (.selects RX10 yX10_open yX10_open : Cond) ∈ AW := aw_of (tb_6 (List.mem_of_getElem? (i := 40) rfl)) rfl
theorem co_X10_open : (.code yX10_open cX10_open 2 (Option.some Jvm.ClassFile.FieldType.int) : Cond) ∈ AW := aw_of (tb_6 (List.mem_of_getElem? (i := 41) rfl)) rfl
theorem ml_X10_313 : (.methodLink RX10 313 yX10_opens : Cond) ∈ AW := aw_of (tb_6 (List.mem_of_getElem? (i := 42) rfl)) rfl
theorem im_X10_opens : (.instanceMethod yX10_opens : Cond) ∈ AW := aw_of (tb_6 (List.mem_of_getElem? (i := 44) rfl)) rfl
theorem co_X10_opens : (.code yX10_opens cX10_opens 7 (Option.none : Option Jvm.ClassFile.FieldType) : Cond) ∈ AW := aw_of (tb_6 (List.mem_of_getElem? (i := 45) rfl)) rfl
theorem ml_X10_301 : (.methodLink RX10 301 yX10_isOpen : Cond) ∈ AW := aw_of (tb_6 (List.mem_of_getElem? (i := 46) rfl)) rfl
theorem im_X10_isOpen : (.instanceMethod yX10_isOpen : Cond) ∈ AW := aw_of (tb_6 (List.mem_of_getElem? (i := 48) rfl)) rfl
theorem co_X10_isOpen : (.code yX10_isOpen cX10_isOpen 4 (Option.some Jvm.ClassFile.FieldType.boolean) : Cond) ∈ AW := aw_of (tb_6 (List.mem_of_getElem? (i := 49) rfl)) rfl
theorem ml_L_104 : (.methodLink RL 104 yX10_parted : Cond) ∈ AW := aw_of (tb_6 (List.mem_of_getElem? (i := 50) rfl)) rfl
theorem im_X10_parted : (.instanceMethod yX10_parted : Cond) ∈ AW := aw_of (tb_6 (List.mem_of_getElem? (i := 51) rfl)) rfl
theorem se_X10_parted : (.selects RX10 yX10_parted yX10_parted : Cond) ∈ AW := aw_of (tb_6 (List.mem_of_getElem? (i := 52) rfl)) rfl
theorem co_X10_parted : (.code yX10_parted cX10_parted 2 (Option.some Jvm.ClassFile.FieldType.int) : Cond) ∈ AW := aw_of (tb_6 (List.mem_of_getElem? (i := 53) rfl)) rfl
theorem kl_X10_325 : (.constantLong RX10 325 (6) : Cond) ∈ AW := aw_of (tb_6 (List.mem_of_getElem? (i := 54) rfl)) rfl
theorem ml_X10_327 : (.methodLink RX10 327 yX10_isLookedFor : Cond) ∈ AW := aw_of (tb_6 (List.mem_of_getElem? (i := 55) rfl)) rfl
theorem im_X10_isLookedFor : (.instanceMethod yX10_isLookedFor : Cond) ∈ AW := aw_of (tb_6 (List.mem_of_getElem? (i := 57) rfl)) rfl
theorem co_X10_isLookedFor : (.code yX10_isLookedFor cX10_isLookedFor 1 (Option.some Jvm.ClassFile.FieldType.boolean) : Cond) ∈ AW := aw_of (tb_6 (List.mem_of_getElem? (i := 58) rfl)) rfl
theorem ml_X10_330 : (.methodLink RX10 330 yX10_parts : Cond) ∈ AW := aw_of (tb_6 (List.mem_of_getElem? (i := 59) rfl)) rfl
theorem im_X10_parts : (.instanceMethod yX10_parts : Cond) ∈ AW := aw_of (tb_6 (List.mem_of_getElem? (i := 61) rfl)) rfl
theorem co_X10_parts : (.code yX10_parts cX10_parts 3 (Option.none : Option Jvm.ClassFile.FieldType) : Cond) ∈ AW := aw_of (tb_6 (List.mem_of_getElem? (i := 62) rfl)) rfl
theorem ml_X10_321 : (.methodLink RX10 321 yX10_deals : Cond) ∈ AW := aw_of (tb_6 (List.mem_of_getElem? (i := 63) rfl)) rfl
theorem im_X10_deals : (.instanceMethod yX10_deals : Cond) ∈ AW := aw_of (tb_6 (List.mem_of_getElem? (i := 65) rfl)) rfl
theorem co_X10_deals : (.code yX10_deals cX10_deals 7 (Option.none : Option Jvm.ClassFile.FieldType) : Cond) ∈ AW := aw_of (tb_6 (List.mem_of_getElem? (i := 66) rfl)) rfl
theorem ml_X10_318 : (.methodLink RX10 318 yX10_takes : Cond) ∈ AW := aw_of (tb_6 (List.mem_of_getElem? (i := 67) rfl)) rfl
theorem im_X10_takes : (.instanceMethod yX10_takes : Cond) ∈ AW := aw_of (tb_6 (List.mem_of_getElem? (i := 69) rfl)) rfl
theorem co_X10_takes : (.code yX10_takes cX10_takes 5 (Option.some Jvm.ClassFile.FieldType.boolean) : Cond) ∈ AW := aw_of (tb_6 (List.mem_of_getElem? (i := 70) rfl)) rfl
theorem ml_L_108 : (.methodLink RL 108 yX10_part : Cond) ∈ AW := aw_of (tb_6 (List.mem_of_getElem? (i := 71) rfl)) rfl
theorem im_X10_part : (.instanceMethod yX10_part : Cond) ∈ AW := aw_of (tb_6 (List.mem_of_getElem? (i := 72) rfl)) rfl
theorem se_X10_part : (.selects RX10 yX10_part yX10_part : Cond) ∈ AW := aw_of (tb_6 (List.mem_of_getElem? (i := 73) rfl)) rfl
theorem co_X10_part : (.code yX10_part cX10_part 3 (Option.some Jvm.ClassFile.FieldType.int) : Cond) ∈ AW := aw_of (tb_6 (List.mem_of_getElem? (i := 74) rfl)) rfl
theorem ml_L_112 : (.methodLink RL 112 yX10_see : Cond) ∈ AW := aw_of (tb_6 (List.mem_of_getElem? (i := 75) rfl)) rfl
theorem im_X10_see : (.instanceMethod yX10_see : Cond) ∈ AW := aw_of (tb_6 (List.mem_of_getElem? (i := 76) rfl)) rfl
theorem se_X10_see : (.selects RX10 yX10_see yX10_see : Cond) ∈ AW := aw_of (tb_6 (List.mem_of_getElem? (i := 77) rfl)) rfl
theorem co_X10_see : (.code yX10_see cX10_see 3 (Option.some Jvm.ClassFile.FieldType.int) : Cond) ∈ AW := aw_of (tb_6 (List.mem_of_getElem? (i := 78) rfl)) rfl
theorem kl_X10_336 : (.constantLong RX10 336 (-999) : Cond) ∈ AW := aw_of (tb_6 (List.mem_of_getElem? (i := 79) rfl)) rfl
theorem kl_X10_338 : (.constantLong RX10 338 (999) : Cond) ∈ AW := aw_of (tb_6 (List.mem_of_getElem? (i := 80) rfl)) rfl
theorem ml_L_116 : (.methodLink RL 116 yX10_fits : Cond) ∈ AW := aw_of (tb_6 (List.mem_of_getElem? (i := 81) rfl)) rfl
theorem im_X10_fits : (.instanceMethod yX10_fits : Cond) ∈ AW := aw_of (tb_6 (List.mem_of_getElem? (i := 82) rfl)) rfl
theorem se_X10_fits : (.selects RX10 yX10_fits yX10_fits : Cond) ∈ AW := aw_of (tb_6 (List.mem_of_getElem? (i := 83) rfl)) rfl
theorem co_X10_fits : (.code yX10_fits cX10_fits 7 (Option.some Jvm.ClassFile.FieldType.int) : Cond) ∈ AW := aw_of (tb_6 (List.mem_of_getElem? (i := 84) rfl)) rfl
theorem ml_X10_340 : (.methodLink RX10 340 yX10_isSeen : Cond) ∈ AW := aw_of (tb_6 (List.mem_of_getElem? (i := 85) rfl)) rfl
theorem im_X10_isSeen : (.instanceMethod yX10_isSeen : Cond) ∈ AW := aw_of (tb_6 (List.mem_of_getElem? (i := 87) rfl)) rfl
theorem co_X10_isSeen : (.code yX10_isSeen cX10_isSeen 2 (Option.some Jvm.ClassFile.FieldType.boolean) : Cond) ∈ AW := aw_of (tb_6 (List.mem_of_getElem? (i := 88) rfl)) rfl
theorem ml_L_121 : (.methodLink RL 121 yX10_odds : Cond) ∈ AW := aw_of (tb_6 (List.mem_of_getElem? (i := 89) rfl)) rfl
theorem im_X10_odds : (.instanceMethod yX10_odds : Cond) ∈ AW := aw_of (tb_6 (List.mem_of_getElem? (i := 90) rfl)) rfl
theorem se_X10_odds : (.selects RX10 yX10_odds yX10_odds : Cond) ∈ AW := aw_of (tb_6 (List.mem_of_getElem? (i := 91) rfl)) rfl
theorem co_X10_odds : (.code yX10_odds cX10_odds 5 (Option.some Jvm.ClassFile.FieldType.long) : Cond) ∈ AW := aw_of (tb_6 (List.mem_of_getElem? (i := 92) rfl)) rfl
theorem kl_X10_343 : (.constantLong RX10 343 (-9223372036854775808) : Cond) ∈ AW := aw_of (tb_6 (List.mem_of_getElem? (i := 93) rfl)) rfl
theorem ml_X10_345 : (.methodLink RX10 345 yX10_lowest : Cond) ∈ AW := aw_of (tb_6 (List.mem_of_getElem? (i := 94) rfl)) rfl
theorem sm_X10_lowest : (.static yX10_lowest : Cond) ∈ AW := aw_of (tb_6 (List.mem_of_getElem? (i := 95) rfl)) rfl
theorem co_X10_lowest : (.code yX10_lowest cX10_lowest 6 (Option.some Jvm.ClassFile.FieldType.long) : Cond) ∈ AW := aw_of (tb_6 (List.mem_of_getElem? (i := 96) rfl)) rfl
theorem ml_L_126 : (.methodLink RL 126 yX10_mean : Cond) ∈ AW := aw_of (tb_6 (List.mem_of_getElem? (i := 97) rfl)) rfl
theorem im_X10_mean : (.instanceMethod yX10_mean : Cond) ∈ AW := aw_of (tb_6 (List.mem_of_getElem? (i := 98) rfl)) rfl
theorem se_X10_mean : (.selects RX10 yX10_mean yX10_mean : Cond) ∈ AW := aw_of (tb_6 (List.mem_of_getElem? (i := 99) rfl)) rfl
theorem co_X10_mean : (.code yX10_mean cX10_mean 4 (Option.some Jvm.ClassFile.FieldType.long) : Cond) ∈ AW := aw_of (tb_6 (List.mem_of_getElem? (i := 100) rfl)) rfl
theorem ml_L_130 : (.methodLink RL 130 yX10_event : Cond) ∈ AW := aw_of (tb_6 (List.mem_of_getElem? (i := 101) rfl)) rfl
theorem im_X10_event : (.instanceMethod yX10_event : Cond) ∈ AW := aw_of (tb_6 (List.mem_of_getElem? (i := 102) rfl)) rfl
theorem se_X10_event : (.selects RX10 yX10_event yX10_event : Cond) ∈ AW := aw_of (tb_6 (List.mem_of_getElem? (i := 103) rfl)) rfl
theorem co_X10_event : (.code yX10_event cX10_event 3 (Option.some Jvm.ClassFile.FieldType.int) : Cond) ∈ AW := aw_of (tb_6 (List.mem_of_getElem? (i := 104) rfl)) rfl
theorem ml_L_134 : (.methodLink RL 134 yX10_after : Cond) ∈ AW := aw_of (tb_6 (List.mem_of_getElem? (i := 105) rfl)) rfl
theorem im_X10_after : (.instanceMethod yX10_after : Cond) ∈ AW := aw_of (tb_6 (List.mem_of_getElem? (i := 106) rfl)) rfl
theorem se_X10_after : (.selects RX10 yX10_after yX10_after : Cond) ∈ AW := aw_of (tb_6 (List.mem_of_getElem? (i := 107) rfl)) rfl
theorem co_X10_after : (.code yX10_after cX10_after 3 (Option.some Jvm.ClassFile.FieldType.int) : Cond) ∈ AW := aw_of (tb_6 (List.mem_of_getElem? (i := 108) rfl)) rfl
theorem ml_X10_352 : (.methodLink RX10 352 yX10_keepTo : Cond) ∈ AW := aw_of (tb_6 (List.mem_of_getElem? (i := 109) rfl)) rfl
theorem im_X10_keepTo : (.instanceMethod yX10_keepTo : Cond) ∈ AW := aw_of (tb_6 (List.mem_of_getElem? (i := 111) rfl)) rfl
theorem co_X10_keepTo : (.code yX10_keepTo cX10_keepTo 3 (Option.none : Option Jvm.ClassFile.FieldType) : Cond) ∈ AW := aw_of (tb_6 (List.mem_of_getElem? (i := 112) rfl)) rfl
theorem ml_X10_356 : (.methodLink RX10 356 yX10_happens : Cond) ∈ AW := aw_of (tb_6 (List.mem_of_getElem? (i := 113) rfl)) rfl
theorem im_X10_happens : (.instanceMethod yX10_happens : Cond) ∈ AW := aw_of (tb_6 (List.mem_of_getElem? (i := 115) rfl)) rfl
theorem co_X10_happens : (.code yX10_happens cX10_happens 4 (Option.none : Option Jvm.ClassFile.FieldType) : Cond) ∈ AW := aw_of (tb_6 (List.mem_of_getElem? (i := 116) rfl)) rfl
theorem ml_X10_360 : (.methodLink RX10 360 yX10_again : Cond) ∈ AW := aw_of (tb_6 (List.mem_of_getElem? (i := 117) rfl)) rfl
theorem im_X10_again : (.instanceMethod yX10_again : Cond) ∈ AW := aw_of (tb_6 (List.mem_of_getElem? (i := 119) rfl)) rfl
theorem co_X10_again : (.code yX10_again cX10_again 3 (Option.none : Option Jvm.ClassFile.FieldType) : Cond) ∈ AW := aw_of (tb_6 (List.mem_of_getElem? (i := 120) rfl)) rfl
theorem ml_L_138 : (.methodLink RL 138 yX10_book : Cond) ∈ AW := aw_of (tb_6 (List.mem_of_getElem? (i := 121) rfl)) rfl
theorem im_X10_book : (.instanceMethod yX10_book : Cond) ∈ AW := aw_of (tb_6 (List.mem_of_getElem? (i := 122) rfl)) rfl
theorem se_X10_book : (.selects RX10 yX10_book yX10_book : Cond) ∈ AW := aw_of (tb_6 (List.mem_of_getElem? (i := 123) rfl)) rfl
theorem co_X10_book : (.code yX10_book cX10_book 3 (Option.some Jvm.ClassFile.FieldType.int) : Cond) ∈ AW := aw_of (tb_6 (List.mem_of_getElem? (i := 124) rfl)) rfl
theorem ml_L_142 : (.methodLink RL 142 yX10_looked : Cond) ∈ AW := aw_of (tb_6 (List.mem_of_getElem? (i := 125) rfl)) rfl
theorem im_X10_looked : (.instanceMethod yX10_looked : Cond) ∈ AW := aw_of (tb_6 (List.mem_of_getElem? (i := 126) rfl)) rfl
theorem se_X10_looked : (.selects RX10 yX10_looked yX10_looked : Cond) ∈ AW := aw_of (tb_6 (List.mem_of_getElem? (i := 127) rfl)) rfl
theorem co_X10_looked : (.code yX10_looked cX10_looked 2 (Option.some Jvm.ClassFile.FieldType.int) : Cond) ∈ AW := aw_of (tb_6 (List.mem_of_getElem? (i := 128) rfl)) rfl
theorem ml_L_146 : (.methodLink RL 146 yX10_judge : Cond) ∈ AW := aw_of (tb_6 (List.mem_of_getElem? (i := 129) rfl)) rfl
theorem im_X10_judge : (.instanceMethod yX10_judge : Cond) ∈ AW := aw_of (tb_6 (List.mem_of_getElem? (i := 130) rfl)) rfl
theorem se_X10_judge : (.selects RX10 yX10_judge yX10_judge : Cond) ∈ AW := aw_of (tb_6 (List.mem_of_getElem? (i := 131) rfl)) rfl
theorem co_X10_judge : (.code yX10_judge cX10_judge 4 (Option.some Jvm.ClassFile.FieldType.int) : Cond) ∈ AW := aw_of (tb_6 (List.mem_of_getElem? (i := 132) rfl)) rfl
theorem kl_X10_366 : (.constantLong RX10 366 (5) : Cond) ∈ AW := aw_of (tb_6 (List.mem_of_getElem? (i := 133) rfl)) rfl
theorem ml_L_150 : (.methodLink RL 150 yX10_image : Cond) ∈ AW := aw_of (tb_6 (List.mem_of_getElem? (i := 134) rfl)) rfl
theorem im_X10_image : (.instanceMethod yX10_image : Cond) ∈ AW := aw_of (tb_6 (List.mem_of_getElem? (i := 135) rfl)) rfl
theorem se_X10_image : (.selects RX10 yX10_image yX10_image : Cond) ∈ AW := aw_of (tb_6 (List.mem_of_getElem? (i := 136) rfl)) rfl
theorem co_X10_image : (.code yX10_image cX10_image 1 (Option.some Jvm.ClassFile.FieldType.int) : Cond) ∈ AW := aw_of (tb_6 (List.mem_of_getElem? (i := 137) rfl)) rfl
theorem ml_L_154 : (.methodLink RL 154 yX10_undo : Cond) ∈ AW := aw_of (tb_6 (List.mem_of_getElem? (i := 138) rfl)) rfl
theorem im_X10_undo : (.instanceMethod yX10_undo : Cond) ∈ AW := aw_of (tb_6 (List.mem_of_getElem? (i := 139) rfl)) rfl
theorem se_X10_undo : (.selects RX10 yX10_undo yX10_undo : Cond) ∈ AW := aw_of (tb_6 (List.mem_of_getElem? (i := 140) rfl)) rfl
theorem co_X10_undo : (.code yX10_undo cX10_undo 1 (Option.some Jvm.ClassFile.FieldType.int) : Cond) ∈ AW := aw_of (tb_6 (List.mem_of_getElem? (i := 141) rfl)) rfl
theorem ml_L_158 : (.methodLink RL 158 yX10_counted : Cond) ∈ AW := aw_of (tb_6 (List.mem_of_getElem? (i := 142) rfl)) rfl
theorem im_X10_counted : (.instanceMethod yX10_counted : Cond) ∈ AW := aw_of (tb_6 (List.mem_of_getElem? (i := 143) rfl)) rfl
theorem se_X10_counted : (.selects RX10 yX10_counted yX10_counted : Cond) ∈ AW := aw_of (tb_6 (List.mem_of_getElem? (i := 144) rfl)) rfl
theorem co_X10_counted : (.code yX10_counted cX10_counted 2 (Option.some Jvm.ClassFile.FieldType.int) : Cond) ∈ AW := aw_of (tb_6 (List.mem_of_getElem? (i := 145) rfl)) rfl
theorem ml_L_162 : (.methodLink RL 162 yX10_tape : Cond) ∈ AW := aw_of (tb_6 (List.mem_of_getElem? (i := 146) rfl)) rfl
theorem im_X10_tape : (.instanceMethod yX10_tape : Cond) ∈ AW := aw_of (tb_6 (List.mem_of_getElem? (i := 147) rfl)) rfl
theorem se_X10_tape : (.selects RX10 yX10_tape yX10_tape : Cond) ∈ AW := aw_of (tb_6 (List.mem_of_getElem? (i := 148) rfl)) rfl
theorem co_X10_tape : (.code yX10_tape cX10_tape 5 (Option.some Jvm.ClassFile.FieldType.int) : Cond) ∈ AW := aw_of (tb_6 (List.mem_of_getElem? (i := 149) rfl)) rfl
theorem ml_X10_372 : (.methodLink RX10 372 yX10_isTape : Cond) ∈ AW := aw_of (tb_6 (List.mem_of_getElem? (i := 150) rfl)) rfl
theorem sm_X10_isTape : (.static yX10_isTape : Cond) ∈ AW := aw_of (tb_6 (List.mem_of_getElem? (i := 151) rfl)) rfl
theorem co_X10_isTape : (.code yX10_isTape cX10_isTape 1 (Option.some Jvm.ClassFile.FieldType.boolean) : Cond) ∈ AW := aw_of (tb_6 (List.mem_of_getElem? (i := 152) rfl)) rfl
theorem ml_L_169 : (.methodLink RL 169 yX10_item : Cond) ∈ AW := aw_of (tb_6 (List.mem_of_getElem? (i := 153) rfl)) rfl
theorem im_X10_item : (.instanceMethod yX10_item : Cond) ∈ AW := aw_of (tb_6 (List.mem_of_getElem? (i := 154) rfl)) rfl
theorem se_X10_item : (.selects RX10 yX10_item yX10_item : Cond) ∈ AW := aw_of (tb_6 (List.mem_of_getElem? (i := 155) rfl)) rfl
theorem co_X10_item : (.code yX10_item cX10_item 7 (Option.some Jvm.ClassFile.FieldType.int) : Cond) ∈ AW := aw_of (tb_6 (List.mem_of_getElem? (i := 156) rfl)) rfl
theorem ml_X10_375 : (.methodLink RX10 375 yX10_hasItem : Cond) ∈ AW := aw_of (tb_6 (List.mem_of_getElem? (i := 157) rfl)) rfl
theorem im_X10_hasItem : (.instanceMethod yX10_hasItem : Cond) ∈ AW := aw_of (tb_6 (List.mem_of_getElem? (i := 159) rfl)) rfl
theorem co_X10_hasItem : (.code yX10_hasItem cX10_hasItem 3 (Option.some Jvm.ClassFile.FieldType.boolean) : Cond) ∈ AW := aw_of (tb_6 (List.mem_of_getElem? (i := 160) rfl)) rfl
theorem ml_L_173 : (.methodLink RL 173 yX10_peek : Cond) ∈ AW := aw_of (tb_6 (List.mem_of_getElem? (i := 161) rfl)) rfl
theorem im_X10_peek : (.instanceMethod yX10_peek : Cond) ∈ AW := aw_of (tb_6 (List.mem_of_getElem? (i := 162) rfl)) rfl
theorem se_X10_peek : (.selects RX10 yX10_peek yX10_peek : Cond) ∈ AW := aw_of (tb_6 (List.mem_of_getElem? (i := 163) rfl)) rfl
theorem co_X10_peek : (.code yX10_peek cX10_peek 3 (Option.some Jvm.ClassFile.FieldType.long) : Cond) ∈ AW := aw_of (tb_6 (List.mem_of_getElem? (i := 164) rfl)) rfl
theorem ml_L_178 : (.methodLink RL 178 yX10_shift : Cond) ∈ AW := aw_of (tb_6 (List.mem_of_getElem? (i := 165) rfl)) rfl
theorem im_X10_shift : (.instanceMethod yX10_shift : Cond) ∈ AW := aw_of (tb_6 (List.mem_of_getElem? (i := 166) rfl)) rfl
theorem se_X10_shift : (.selects RX10 yX10_shift yX10_shift : Cond) ∈ AW := aw_of (tb_6 (List.mem_of_getElem? (i := 167) rfl)) rfl
theorem co_X10_shift : (.code yX10_shift cX10_shift 9 (Option.some Jvm.ClassFile.FieldType.int) : Cond) ∈ AW := aw_of (tb_6 (List.mem_of_getElem? (i := 168) rfl)) rfl
theorem kl_L_163 : (.constantLong RL 163 (4294967295) : Cond) ∈ AW := aw_of (tb_6 (List.mem_of_getElem? (i := 169) rfl)) rfl
theorem fl_J0_9 : (.fieldLink RJ0 9 "java/lang/String" "value" "[B" : Cond) ∈ AW := aw_of (tb_6 (List.mem_of_getElem? (i := 170) rfl)) rfl
theorem fl_J0_15 : (.fieldLink RJ0 15 "java/lang/String" "coder" "B" : Cond) ∈ AW := aw_of (tb_6 (List.mem_of_getElem? (i := 171) rfl)) rfl
theorem se_X4_passSign : (.selects RX4 yX4_passSign yX4_passSign : Cond) ∈ AW := aw_of (List.mem_append_left _ (List.mem_of_getElem? (i := 0) rfl)) rfl
theorem se_X4_parseClause : (.selects RX4 yX4_parseClause yX4_parseClause : Cond) ∈ AW := aw_of (List.mem_append_left _ (List.mem_of_getElem? (i := 1) rfl)) rfl
theorem se_X4_parseWord : (.selects RX4 yX4_parseWord yX4_parseWord : Cond) ∈ AW := aw_of (List.mem_append_left _ (List.mem_of_getElem? (i := 2) rfl)) rfl
theorem se_X4_signsAlike : (.selects RX4 yX4_signsAlike yX4_signsAlike : Cond) ∈ AW := aw_of (List.mem_append_left _ (List.mem_of_getElem? (i := 3) rfl)) rfl
theorem se_X4_parseNumber : (.selects RX4 yX4_parseNumber yX4_parseNumber : Cond) ∈ AW := aw_of (List.mem_append_left _ (List.mem_of_getElem? (i := 4) rfl)) rfl
theorem se_X9_doClause : (.selects RX9 yX9_doClause yX9_doClause : Cond) ∈ AW := aw_of (List.mem_append_left _ (List.mem_of_getElem? (i := 5) rfl)) rfl
theorem se_X5_signOfTerm : (.selects RX5 yX5_signOfTerm yX5_signOfTerm : Cond) ∈ AW := aw_of (List.mem_append_left _ (List.mem_of_getElem? (i := 6) rfl)) rfl
theorem se_X1_judgeTwist : (.selects RX1 yX1_judgeTwist yX1_judgeTwist : Cond) ∈ AW := aw_of (List.mem_append_left _ (List.mem_of_getElem? (i := 7) rfl)) rfl
theorem se_X1_leastPoint : (.selects RX1 yX1_leastPoint yX1_leastPoint : Cond) ∈ AW := aw_of (List.mem_append_left _ (List.mem_of_getElem? (i := 8) rfl)) rfl
theorem se_X2_startTallies : (.selects RX2 yX2_startTallies yX2_startTallies : Cond) ∈ AW := aw_of (List.mem_append_left _ (List.mem_of_getElem? (i := 9) rfl)) rfl
theorem se_X2_addWay : (.selects RX2 yX2_addWay yX2_addWay : Cond) ∈ AW := aw_of (List.mem_append_left _ (List.mem_of_getElem? (i := 10) rfl)) rfl
theorem se_X9_happen : (.selects RX9 yX9_happen yX9_happen : Cond) ∈ AW := aw_of (List.mem_append_left _ (List.mem_of_getElem? (i := 11) rfl)) rfl
theorem se_X10_lists : (.selects RX10 yX10_lists yX10_lists : Cond) ∈ AW := aw_of (List.mem_append_left _ (List.mem_of_getElem? (i := 12) rfl)) rfl
theorem se_X10_shape : (.selects RX10 yX10_shape yX10_shape : Cond) ∈ AW := aw_of (List.mem_append_left _ (List.mem_of_getElem? (i := 13) rfl)) rfl
theorem se_X10_becomes : (.selects RX10 yX10_becomes yX10_becomes : Cond) ∈ AW := aw_of (List.mem_append_left _ (List.mem_of_getElem? (i := 14) rfl)) rfl
theorem se_X10_isBlock : (.selects RX10 yX10_isBlock yX10_isBlock : Cond) ∈ AW := aw_of (List.mem_append_left _ (List.mem_of_getElem? (i := 15) rfl)) rfl
theorem se_X10_twists : (.selects RX10 yX10_twists yX10_twists : Cond) ∈ AW := aw_of (List.mem_append_left _ (List.mem_of_getElem? (i := 16) rfl)) rfl
theorem se_X10_isPoint : (.selects RX10 yX10_isPoint yX10_isPoint : Cond) ∈ AW := aw_of (List.mem_append_left _ (List.mem_of_getElem? (i := 17) rfl)) rfl
theorem se_X10_adds : (.selects RX10 yX10_adds yX10_adds : Cond) ∈ AW := aw_of (List.mem_append_left _ (List.mem_of_getElem? (i := 18) rfl)) rfl
theorem se_X10_volume : (.selects RX10 yX10_volume yX10_volume : Cond) ∈ AW := aw_of (List.mem_append_left _ (List.mem_of_getElem? (i := 19) rfl)) rfl
theorem se_X10_maySwap : (.selects RX10 yX10_maySwap yX10_maySwap : Cond) ∈ AW := aw_of (List.mem_append_left _ (List.mem_of_getElem? (i := 20) rfl)) rfl
theorem se_X10_isPlain : (.selects RX10 yX10_isPlain yX10_isPlain : Cond) ∈ AW := aw_of (List.mem_append_left _ (List.mem_of_getElem? (i := 21) rfl)) rfl
theorem se_X10_isTrade : (.selects RX10 yX10_isTrade yX10_isTrade : Cond) ∈ AW := aw_of (List.mem_append_left _ (List.mem_of_getElem? (i := 22) rfl)) rfl
theorem se_X10_sumOf : (.selects RX10 yX10_sumOf yX10_sumOf : Cond) ∈ AW := aw_of (List.mem_append_left _ (List.mem_of_getElem? (i := 23) rfl)) rfl
theorem se_X10_swaps : (.selects RX10 yX10_swaps yX10_swaps : Cond) ∈ AW := aw_of (List.mem_append_left _ (List.mem_of_getElem? (i := 24) rfl)) rfl
theorem se_X10_inDesign : (.selects RX10 yX10_inDesign yX10_inDesign : Cond) ∈ AW := aw_of (List.mem_append_left _ (List.mem_of_getElem? (i := 25) rfl)) rfl
theorem se_X10_exchanges : (.selects RX10 yX10_exchanges yX10_exchanges : Cond) ∈ AW := aw_of (List.mem_append_left _ (List.mem_of_getElem? (i := 26) rfl)) rfl
theorem se_X10_reads : (.selects RX10 yX10_reads yX10_reads : Cond) ∈ AW := aw_of (List.mem_append_left _ (List.mem_of_getElem? (i := 27) rfl)) rfl
theorem se_X10_what : (.selects RX10 yX10_what yX10_what : Cond) ∈ AW := aw_of (List.mem_append_left _ (List.mem_of_getElem? (i := 28) rfl)) rfl
theorem se_X10_sign : (.selects RX10 yX10_sign yX10_sign : Cond) ∈ AW := aw_of (List.mem_append_left _ (List.mem_of_getElem? (i := 29) rfl)) rfl
theorem se_X10_word : (.selects RX10 yX10_word yX10_word : Cond) ∈ AW := aw_of (List.mem_append_left _ (List.mem_of_getElem? (i := 30) rfl)) rfl
theorem se_X10_numeral : (.selects RX10 yX10_numeral yX10_numeral : Cond) ∈ AW := aw_of (List.mem_append_left _ (List.mem_of_getElem? (i := 31) rfl)) rfl
theorem se_X10_does : (.selects RX10 yX10_does yX10_does : Cond) ∈ AW := aw_of (List.mem_append_left _ (List.mem_of_getElem? (i := 32) rfl)) rfl
theorem se_X10_foundation : (.selects RX10 yX10_foundation yX10_foundation : Cond) ∈ AW := aw_of (List.mem_append_left _ (List.mem_of_getElem? (i := 33) rfl)) rfl
theorem se_X10_index : (.selects RX10 yX10_index yX10_index : Cond) ∈ AW := aw_of (List.mem_append_left _ (List.mem_of_getElem? (i := 34) rfl)) rfl
theorem se_X10_coverOf : (.selects RX10 yX10_coverOf yX10_coverOf : Cond) ∈ AW := aw_of (List.mem_append_left _ (List.mem_of_getElem? (i := 35) rfl)) rfl
theorem se_X10_isSet : (.selects RX10 yX10_isSet yX10_isSet : Cond) ∈ AW := aw_of (List.mem_append_left _ (List.mem_of_getElem? (i := 36) rfl)) rfl
theorem se_X10_writes : (.selects RX10 yX10_writes yX10_writes : Cond) ∈ AW := aw_of (List.mem_append_left _ (List.mem_of_getElem? (i := 37) rfl)) rfl
theorem se_X10_write : (.selects RX10 yX10_write yX10_write : Cond) ∈ AW := aw_of (List.mem_append_left _ (List.mem_of_getElem? (i := 38) rfl)) rfl
theorem se_X10_opens : (.selects RX10 yX10_opens yX10_opens : Cond) ∈ AW := aw_of (List.mem_append_left _ (List.mem_of_getElem? (i := 39) rfl)) rfl
theorem se_X10_isOpen : (.selects RX10 yX10_isOpen yX10_isOpen : Cond) ∈ AW := aw_of (List.mem_append_left _ (List.mem_of_getElem? (i := 40) rfl)) rfl
theorem se_X10_isLookedFor : (.selects RX10 yX10_isLookedFor yX10_isLookedFor : Cond) ∈ AW := aw_of (List.mem_append_left _ (List.mem_of_getElem? (i := 41) rfl)) rfl
theorem se_X10_parts : (.selects RX10 yX10_parts yX10_parts : Cond) ∈ AW := aw_of (List.mem_append_left _ (List.mem_of_getElem? (i := 42) rfl)) rfl
theorem se_X10_deals : (.selects RX10 yX10_deals yX10_deals : Cond) ∈ AW := aw_of (List.mem_append_left _ (List.mem_of_getElem? (i := 43) rfl)) rfl
theorem se_X10_takes : (.selects RX10 yX10_takes yX10_takes : Cond) ∈ AW := aw_of (List.mem_append_left _ (List.mem_of_getElem? (i := 44) rfl)) rfl
theorem se_X10_isSeen : (.selects RX10 yX10_isSeen yX10_isSeen : Cond) ∈ AW := aw_of (List.mem_append_left _ (List.mem_of_getElem? (i := 45) rfl)) rfl
theorem se_X10_keepTo : (.selects RX10 yX10_keepTo yX10_keepTo : Cond) ∈ AW := aw_of (List.mem_append_left _ (List.mem_of_getElem? (i := 46) rfl)) rfl
theorem se_X10_happens : (.selects RX10 yX10_happens yX10_happens : Cond) ∈ AW := aw_of (List.mem_append_left _ (List.mem_of_getElem? (i := 47) rfl)) rfl
theorem se_X10_again : (.selects RX10 yX10_again yX10_again : Cond) ∈ AW := aw_of (List.mem_append_left _ (List.mem_of_getElem? (i := 48) rfl)) rfl
theorem se_X10_hasItem : (.selects RX10 yX10_hasItem yX10_hasItem : Cond) ∈ AW := aw_of (List.mem_append_left _ (List.mem_of_getElem? (i := 49) rfl)) rfl
theorem fw_X0 : ∀ w ∈ u_ws RX0 TX0 6, w ∈ AW := by
  have h : (u_ws RX0 TX0 6).all (fun w => decide (w ∈ AW)) = true := by decide +kernel
  exact fun w hw => of_decide_eq_true (List.all_eq_true.mp h w hw)
theorem fw_X1 : ∀ w ∈ u_ws RX1 TX1 4, w ∈ AW := by
  have h : (u_ws RX1 TX1 4).all (fun w => decide (w ∈ AW)) = true := by decide +kernel
  exact fun w hw => of_decide_eq_true (List.all_eq_true.mp h w hw)
theorem fw_X10 : ∀ w ∈ u_ws RX10 TX10 42, w ∈ AW := by
  have h : (u_ws RX10 TX10 42).all (fun w => decide (w ∈ AW)) = true := by decide +kernel
  exact fun w hw => of_decide_eq_true (List.all_eq_true.mp h w hw)
theorem fw_X2 : ∀ w ∈ u_ws RX2 TX2 8, w ∈ AW := by
  have h : (u_ws RX2 TX2 8).all (fun w => decide (w ∈ AW)) = true := by decide +kernel
  exact fun w hw => of_decide_eq_true (List.all_eq_true.mp h w hw)
theorem fw_X3 : ∀ w ∈ u_ws RX3 TX3 3, w ∈ AW := by
  have h : (u_ws RX3 TX3 3).all (fun w => decide (w ∈ AW)) = true := by decide +kernel
  exact fun w hw => of_decide_eq_true (List.all_eq_true.mp h w hw)
theorem fw_X4 : ∀ w ∈ u_ws RX4 TX4 6, w ∈ AW := by
  have h : (u_ws RX4 TX4 6).all (fun w => decide (w ∈ AW)) = true := by decide +kernel
  exact fun w hw => of_decide_eq_true (List.all_eq_true.mp h w hw)
theorem fw_X5 : ∀ w ∈ u_ws RX5 TX5 4, w ∈ AW := by
  have h : (u_ws RX5 TX5 4).all (fun w => decide (w ∈ AW)) = true := by decide +kernel
  exact fun w hw => of_decide_eq_true (List.all_eq_true.mp h w hw)
theorem fw_X6 : ∀ w ∈ u_ws RX6 TX6 5, w ∈ AW := by
  have h : (u_ws RX6 TX6 5).all (fun w => decide (w ∈ AW)) = true := by decide +kernel
  exact fun w hw => of_decide_eq_true (List.all_eq_true.mp h w hw)
theorem fw_X7 : ∀ w ∈ u_ws RX7 TX7 3, w ∈ AW := by
  have h : (u_ws RX7 TX7 3).all (fun w => decide (w ∈ AW)) = true := by decide +kernel
  exact fun w hw => of_decide_eq_true (List.all_eq_true.mp h w hw)
theorem fw_X8 : ∀ w ∈ u_ws RX8 TX8 3, w ∈ AW := by
  have h : (u_ws RX8 TX8 3).all (fun w => decide (w ∈ AW)) = true := by decide +kernel
  exact fun w hw => of_decide_eq_true (List.all_eq_true.mp h w hw)
theorem fw_X9 : ∀ w ∈ u_ws RX9 TX9 9, w ∈ AW := by
  have h : (u_ws RX9 TX9 9).all (fun w => decide (w ∈ AW)) = true := by decide +kernel
  exact fun w hw => of_decide_eq_true (List.all_eq_true.mp h w hw)
