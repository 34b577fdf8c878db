-- ===== PART A: goes FIRST, ahead of the names: the tables' words, and 'selects' of the private methods out of them =====
/-- a private method of a class that the tables say can be made, by its rows of tables_1 -/
def lw_okq (q : MethodName × Nat) : Prop := (q.1.cls ≠ "java/lang/invoke/MethodHandle" ∧ q.1.cls ≠ "java/lang/invoke/VarHandle") ∧ Cond.instantiable q.1.cls q.2 ∈ tables_1 ∧ Cond.privateMethod q.1 ∈ tables_1 ∧ Cond.instanceMethod q.1 ∈ tables_1
theorem lw_p0 : lw_okq (⟨"FoldDeeds$Text", "passBlanks", "()V"⟩, 4) := ⟨⟨by decide +kernel, by decide +kernel⟩, List.mem_of_getElem? (i := 30) (by decide +kernel), List.mem_of_getElem? (i := 377) (by decide +kernel), List.mem_of_getElem? (i := 378) (by decide +kernel)⟩
theorem lw_p1 : lw_okq (⟨"FoldDeeds$ClothReader", "readClause", "(LFoldDeeds$Text;I)V"⟩, 1) := ⟨⟨by decide +kernel, by decide +kernel⟩, List.mem_of_getElem? (i := 51) (by decide +kernel), List.mem_of_getElem? (i := 385) (by decide +kernel), List.mem_of_getElem? (i := 386) (by decide +kernel)⟩
theorem lw_p2 : lw_okq (⟨"FoldDeeds$Text", "numberIn", "(Ljava/lang/String;I)I"⟩, 4) := ⟨⟨by decide +kernel, by decide +kernel⟩, List.mem_of_getElem? (i := 30) (by decide +kernel), List.mem_of_getElem? (i := 398) (by decide +kernel), List.mem_of_getElem? (i := 399) (by decide +kernel)⟩
theorem lw_p3 : lw_okq (⟨"FoldDeeds$ClothReader", "readCells", "(LFoldDeeds$Text;)V"⟩, 1) := ⟨⟨by decide +kernel, by decide +kernel⟩, List.mem_of_getElem? (i := 51) (by decide +kernel), List.mem_of_getElem? (i := 459) (by decide +kernel), List.mem_of_getElem? (i := 460) (by decide +kernel)⟩
theorem lw_p4 : lw_okq (⟨"FoldDeeds$ClothReader", "readPerson", "(LFoldDeeds$Text;)V"⟩, 1) := ⟨⟨by decide +kernel, by decide +kernel⟩, List.mem_of_getElem? (i := 51) (by decide +kernel), List.mem_of_getElem? (i := 478) (by decide +kernel), List.mem_of_getElem? (i := 479) (by decide +kernel)⟩
theorem lw_p5 : lw_okq (⟨"FoldDeeds$ClothReader", "readPair", "(LFoldDeeds$Text;I)V"⟩, 1) := ⟨⟨by decide +kernel, by decide +kernel⟩, List.mem_of_getElem? (i := 51) (by decide +kernel), List.mem_of_getElem? (i := 482) (by decide +kernel), List.mem_of_getElem? (i := 483) (by decide +kernel)⟩
theorem lw_p6 : lw_okq (⟨"FoldDeeds$RuleReader", "readClause", "(LFoldDeeds$Text;I)V"⟩, 3) := ⟨⟨by decide +kernel, by decide +kernel⟩, List.mem_of_getElem? (i := 135) (by decide +kernel), List.mem_of_getElem? (i := 533) (by decide +kernel), List.mem_of_getElem? (i := 534) (by decide +kernel)⟩
theorem lw_p7 : lw_okq (⟨"FoldDeeds$RuleReader", "readSum", "(LFoldDeeds$Text;)V"⟩, 3) := ⟨⟨by decide +kernel, by decide +kernel⟩, List.mem_of_getElem? (i := 135) (by decide +kernel), List.mem_of_getElem? (i := 546) (by decide +kernel), List.mem_of_getElem? (i := 547) (by decide +kernel)⟩
theorem lw_p8 : lw_okq (⟨"FoldDeeds$RuleReader", "readValue", "(LFoldDeeds$Text;)V"⟩, 3) := ⟨⟨by decide +kernel, by decide +kernel⟩, List.mem_of_getElem? (i := 135) (by decide +kernel), List.mem_of_getElem? (i := 550) (by decide +kernel), List.mem_of_getElem? (i := 551) (by decide +kernel)⟩
theorem lw_p9 : lw_okq (⟨"FoldDeeds$RuleReader", "addStep", "(I)V"⟩, 3) := ⟨⟨by decide +kernel, by decide +kernel⟩, List.mem_of_getElem? (i := 135) (by decide +kernel), List.mem_of_getElem? (i := 560) (by decide +kernel), List.mem_of_getElem? (i := 561) (by decide +kernel)⟩
theorem lw_p10 : lw_okq (⟨"FoldDeeds$RuleReader", "countItem", "(LFoldDeeds$Text;I)V"⟩, 3) := ⟨⟨by decide +kernel, by decide +kernel⟩, List.mem_of_getElem? (i := 135) (by decide +kernel), List.mem_of_getElem? (i := 566) (by decide +kernel), List.mem_of_getElem? (i := 567) (by decide +kernel)⟩
theorem lw_p11 : lw_okq (⟨"FoldDeeds$RuleReader", "readTest", "(LFoldDeeds$Text;I)V"⟩, 3) := ⟨⟨by decide +kernel, by decide +kernel⟩, List.mem_of_getElem? (i := 135) (by decide +kernel), List.mem_of_getElem? (i := 578) (by decide +kernel), List.mem_of_getElem? (i := 579) (by decide +kernel)⟩
theorem lw_p12 : lw_okq (⟨"FoldDeeds$RuleReader", "readFact", "(LFoldDeeds$Text;I)V"⟩, 3) := ⟨⟨by decide +kernel, by decide +kernel⟩, List.mem_of_getElem? (i := 135) (by decide +kernel), List.mem_of_getElem? (i := 582) (by decide +kernel), List.mem_of_getElem? (i := 583) (by decide +kernel)⟩
theorem lw_p13 : lw_okq (⟨"FoldDeeds$RuleReader", "takeComparison", "(LFoldDeeds$Text;)I"⟩, 3) := ⟨⟨by decide +kernel, by decide +kernel⟩, List.mem_of_getElem? (i := 135) (by decide +kernel), List.mem_of_getElem? (i := 588) (by decide +kernel), List.mem_of_getElem? (i := 589) (by decide +kernel)⟩
theorem lw_p14 : lw_okq (⟨"FoldDeeds", "ruleInForce", "()LFoldDeeds$Rule;"⟩, 14) := ⟨⟨by decide +kernel, by decide +kernel⟩, List.mem_of_getElem? (i := 22) (by decide +kernel), List.mem_of_getElem? (i := 662) (by decide +kernel), List.mem_of_getElem? (i := 663) (by decide +kernel)⟩
theorem lw_p15 : lw_okq (⟨"FoldDeeds", "ruleOf", "(I)LFoldDeeds$Rule;"⟩, 14) := ⟨⟨by decide +kernel, by decide +kernel⟩, List.mem_of_getElem? (i := 22) (by decide +kernel), List.mem_of_getElem? (i := 666) (by decide +kernel), List.mem_of_getElem? (i := 667) (by decide +kernel)⟩
def lw_privs_1 : List (MethodName × Nat) := [(⟨"FoldDeeds$Text", "passBlanks", "()V"⟩, 4), (⟨"FoldDeeds$ClothReader", "readClause", "(LFoldDeeds$Text;I)V"⟩, 1), (⟨"FoldDeeds$Text", "numberIn", "(Ljava/lang/String;I)I"⟩, 4), (⟨"FoldDeeds$ClothReader", "readCells", "(LFoldDeeds$Text;)V"⟩, 1), (⟨"FoldDeeds$ClothReader", "readPerson", "(LFoldDeeds$Text;)V"⟩, 1), (⟨"FoldDeeds$ClothReader", "readPair", "(LFoldDeeds$Text;I)V"⟩, 1), (⟨"FoldDeeds$RuleReader", "readClause", "(LFoldDeeds$Text;I)V"⟩, 3), (⟨"FoldDeeds$RuleReader", "readSum", "(LFoldDeeds$Text;)V"⟩, 3), (⟨"FoldDeeds$RuleReader", "readValue", "(LFoldDeeds$Text;)V"⟩, 3), (⟨"FoldDeeds$RuleReader", "addStep", "(I)V"⟩, 3), (⟨"FoldDeeds$RuleReader", "countItem", "(LFoldDeeds$Text;I)V"⟩, 3), (⟨"FoldDeeds$RuleReader", "readTest", "(LFoldDeeds$Text;I)V"⟩, 3), (⟨"FoldDeeds$RuleReader", "readFact", "(LFoldDeeds$Text;I)V"⟩, 3), (⟨"FoldDeeds$RuleReader", "takeComparison", "(LFoldDeeds$Text;)I"⟩, 3), (⟨"FoldDeeds", "ruleInForce", "()LFoldDeeds$Rule;"⟩, 14), (⟨"FoldDeeds", "ruleOf", "(I)LFoldDeeds$Rule;"⟩, 14)]
theorem lw_r1 : ∀ q ∈ lw_privs_1, lw_okq q := List.forall_mem_cons.mpr ⟨lw_p0, List.forall_mem_cons.mpr ⟨lw_p1, List.forall_mem_cons.mpr ⟨lw_p2, List.forall_mem_cons.mpr ⟨lw_p3, List.forall_mem_cons.mpr ⟨lw_p4, List.forall_mem_cons.mpr ⟨lw_p5, List.forall_mem_cons.mpr ⟨lw_p6, List.forall_mem_cons.mpr ⟨lw_p7, List.forall_mem_cons.mpr ⟨lw_p8, List.forall_mem_cons.mpr ⟨lw_p9, List.forall_mem_cons.mpr ⟨lw_p10, List.forall_mem_cons.mpr ⟨lw_p11, List.forall_mem_cons.mpr ⟨lw_p12, List.forall_mem_cons.mpr ⟨lw_p13, List.forall_mem_cons.mpr ⟨lw_p14, List.forall_mem_cons.mpr ⟨lw_p15, fun _ h => absurd h List.not_mem_nil⟩⟩⟩⟩⟩⟩⟩⟩⟩⟩⟩⟩⟩⟩⟩⟩
theorem lw_p16 : lw_okq (⟨"FoldDeeds$Market", "priceOf", "(LFoldDeeds$Cloth;LFoldDeeds$Rule;I)I"⟩, 4) := ⟨⟨by decide +kernel, by decide +kernel⟩, List.mem_of_getElem? (i := 214) (by decide +kernel), List.mem_of_getElem? (i := 697) (by decide +kernel), List.mem_of_getElem? (i := 698) (by decide +kernel)⟩
theorem lw_p17 : lw_okq (⟨"FoldDeeds$Cloth", "turnCell", "(LFoldDeeds$Cloth;II)V"⟩, 12) := ⟨⟨by decide +kernel, by decide +kernel⟩, List.mem_of_getElem? (i := 57) (by decide +kernel), List.mem_of_getElem? (i := 741) (by decide +kernel), List.mem_of_getElem? (i := 742) (by decide +kernel)⟩
theorem lw_p18 : lw_okq (⟨"FoldDeeds$Cloth", "layersOn", "(I)I"⟩, 12) := ⟨⟨by decide +kernel, by decide +kernel⟩, List.mem_of_getElem? (i := 57) (by decide +kernel), List.mem_of_getElem? (i := 745) (by decide +kernel), List.mem_of_getElem? (i := 746) (by decide +kernel)⟩
theorem lw_p19 : lw_okq (⟨"FoldDeeds$Cloth", "countThickness", "()V"⟩, 12) := ⟨⟨by decide +kernel, by decide +kernel⟩, List.mem_of_getElem? (i := 57) (by decide +kernel), List.mem_of_getElem? (i := 749) (by decide +kernel), List.mem_of_getElem? (i := 750) (by decide +kernel)⟩
theorem lw_p20 : lw_okq (⟨"FoldDeeds$FoldSearch", "seekMarksFrom", "(I[I)V"⟩, 4) := ⟨⟨by decide +kernel, by decide +kernel⟩, List.mem_of_getElem? (i := 236) (by decide +kernel), List.mem_of_getElem? (i := 795) (by decide +kernel), List.mem_of_getElem? (i := 796) (by decide +kernel)⟩
theorem lw_p21 : lw_okq (⟨"FoldDeeds$FoldSearch", "keepRow", "(I)V"⟩, 4) := ⟨⟨by decide +kernel, by decide +kernel⟩, List.mem_of_getElem? (i := 236) (by decide +kernel), List.mem_of_getElem? (i := 803) (by decide +kernel), List.mem_of_getElem? (i := 804) (by decide +kernel)⟩
theorem lw_p22 : lw_okq (⟨"FoldDeeds$StackBook", "makeRows", "(I)V"⟩, 7) := ⟨⟨by decide +kernel, by decide +kernel⟩, List.mem_of_getElem? (i := 257) (by decide +kernel), List.mem_of_getElem? (i := 829) (by decide +kernel), List.mem_of_getElem? (i := 830) (by decide +kernel)⟩
theorem lw_p23 : lw_okq (⟨"FoldDeeds$StackBook", "addFrom", "(II)V"⟩, 7) := ⟨⟨by decide +kernel, by decide +kernel⟩, List.mem_of_getElem? (i := 257) (by decide +kernel), List.mem_of_getElem? (i := 833) (by decide +kernel), List.mem_of_getElem? (i := 834) (by decide +kernel)⟩
theorem lw_p24 : lw_okq (⟨"FoldDeeds$StackBook", "addRow", "(I)V"⟩, 7) := ⟨⟨by decide +kernel, by decide +kernel⟩, List.mem_of_getElem? (i := 257) (by decide +kernel), List.mem_of_getElem? (i := 837) (by decide +kernel), List.mem_of_getElem? (i := 838) (by decide +kernel)⟩
theorem lw_p25 : lw_okq (⟨"FoldDeeds$StackBook", "crosses", "(II)Z"⟩, 7) := ⟨⟨by decide +kernel, by decide +kernel⟩, List.mem_of_getElem? (i := 257) (by decide +kernel), List.mem_of_getElem? (i := 844) (by decide +kernel), List.mem_of_getElem? (i := 845) (by decide +kernel)⟩
theorem lw_p26 : lw_okq (⟨"FoldDeeds$StackBook", "makeRoom", "(II)V"⟩, 7) := ⟨⟨by decide +kernel, by decide +kernel⟩, List.mem_of_getElem? (i := 257) (by decide +kernel), List.mem_of_getElem? (i := 848) (by decide +kernel), List.mem_of_getElem? (i := 849) (by decide +kernel)⟩
theorem lw_p27 : lw_okq (⟨"FoldDeeds$StackBook", "closeRoom", "(II)V"⟩, 7) := ⟨⟨by decide +kernel, by decide +kernel⟩, List.mem_of_getElem? (i := 257) (by decide +kernel), List.mem_of_getElem? (i := 852) (by decide +kernel), List.mem_of_getElem? (i := 853) (by decide +kernel)⟩
theorem lw_p28 : lw_okq (⟨"FoldDeeds$StackBook", "clearTally", "()V"⟩, 7) := ⟨⟨by decide +kernel, by decide +kernel⟩, List.mem_of_getElem? (i := 257) (by decide +kernel), List.mem_of_getElem? (i := 856) (by decide +kernel), List.mem_of_getElem? (i := 857) (by decide +kernel)⟩
theorem lw_p29 : lw_okq (⟨"FoldDeeds$StackBook", "markedAs", "([II)I"⟩, 7) := ⟨⟨by decide +kernel, by decide +kernel⟩, List.mem_of_getElem? (i := 257) (by decide +kernel), List.mem_of_getElem? (i := 860) (by decide +kernel), List.mem_of_getElem? (i := 861) (by decide +kernel)⟩
theorem lw_p30 : lw_okq (⟨"FoldDeeds$StackBook", "countLayers", "(I)V"⟩, 7) := ⟨⟨by decide +kernel, by decide +kernel⟩, List.mem_of_getElem? (i := 257) (by decide +kernel), List.mem_of_getElem? (i := 866) (by decide +kernel), List.mem_of_getElem? (i := 867) (by decide +kernel)⟩
theorem lw_p31 : lw_okq (⟨"FoldDeeds$FoldSearch", "ownsBy", "(LFoldDeeds$Market;LFoldDeeds$Rule;IIII)Z"⟩, 4) := ⟨⟨by decide +kernel, by decide +kernel⟩, List.mem_of_getElem? (i := 236) (by decide +kernel), List.mem_of_getElem? (i := 918) (by decide +kernel), List.mem_of_getElem? (i := 919) (by decide +kernel)⟩
def lw_privs_2 : List (MethodName × Nat) := [(⟨"FoldDeeds$Market", "priceOf", "(LFoldDeeds$Cloth;LFoldDeeds$Rule;I)I"⟩, 4), (⟨"FoldDeeds$Cloth", "turnCell", "(LFoldDeeds$Cloth;II)V"⟩, 12), (⟨"FoldDeeds$Cloth", "layersOn", "(I)I"⟩, 12), (⟨"FoldDeeds$Cloth", "countThickness", "()V"⟩, 12), (⟨"FoldDeeds$FoldSearch", "seekMarksFrom", "(I[I)V"⟩, 4), (⟨"FoldDeeds$FoldSearch", "keepRow", "(I)V"⟩, 4), (⟨"FoldDeeds$StackBook", "makeRows", "(I)V"⟩, 7), (⟨"FoldDeeds$StackBook", "addFrom", "(II)V"⟩, 7), (⟨"FoldDeeds$StackBook", "addRow", "(I)V"⟩, 7), (⟨"FoldDeeds$StackBook", "crosses", "(II)Z"⟩, 7), (⟨"FoldDeeds$StackBook", "makeRoom", "(II)V"⟩, 7), (⟨"FoldDeeds$StackBook", "closeRoom", "(II)V"⟩, 7), (⟨"FoldDeeds$StackBook", "clearTally", "()V"⟩, 7), (⟨"FoldDeeds$StackBook", "markedAs", "([II)I"⟩, 7), (⟨"FoldDeeds$StackBook", "countLayers", "(I)V"⟩, 7), (⟨"FoldDeeds$FoldSearch", "ownsBy", "(LFoldDeeds$Market;LFoldDeeds$Rule;IIII)Z"⟩, 4)]
theorem lw_r2 : ∀ q ∈ lw_privs_2, lw_okq q := List.forall_mem_cons.mpr ⟨lw_p16, List.forall_mem_cons.mpr ⟨lw_p17, List.forall_mem_cons.mpr ⟨lw_p18, List.forall_mem_cons.mpr ⟨lw_p19, List.forall_mem_cons.mpr ⟨lw_p20, List.forall_mem_cons.mpr ⟨lw_p21, List.forall_mem_cons.mpr ⟨lw_p22, List.forall_mem_cons.mpr ⟨lw_p23, List.forall_mem_cons.mpr ⟨lw_p24, List.forall_mem_cons.mpr ⟨lw_p25, List.forall_mem_cons.mpr ⟨lw_p26, List.forall_mem_cons.mpr ⟨lw_p27, List.forall_mem_cons.mpr ⟨lw_p28, List.forall_mem_cons.mpr ⟨lw_p29, List.forall_mem_cons.mpr ⟨lw_p30, List.forall_mem_cons.mpr ⟨lw_p31, fun _ h => absurd h List.not_mem_nil⟩⟩⟩⟩⟩⟩⟩⟩⟩⟩⟩⟩⟩⟩⟩⟩
theorem lw_p32 : lw_okq (⟨"FoldDeeds", "findSo", "()I"⟩, 14) := ⟨⟨by decide +kernel, by decide +kernel⟩, List.mem_of_getElem? (i := 22) (by decide +kernel), List.mem_of_getElem? (i := 946) (by decide +kernel), List.mem_of_getElem? (i := 947) (by decide +kernel)⟩
theorem lw_p33 : lw_okq (⟨"FoldDeeds", "explainsLogs", "(LFoldDeeds$Rule;)Z"⟩, 14) := ⟨⟨by decide +kernel, by decide +kernel⟩, List.mem_of_getElem? (i := 22) (by decide +kernel), List.mem_of_getElem? (i := 950) (by decide +kernel), List.mem_of_getElem? (i := 951) (by decide +kernel)⟩
theorem lw_p34 : lw_okq (⟨"FoldDeeds", "alikeAt", "(I)I"⟩, 14) := ⟨⟨by decide +kernel, by decide +kernel⟩, List.mem_of_getElem? (i := 22) (by decide +kernel), List.mem_of_getElem? (i := 958) (by decide +kernel), List.mem_of_getElem? (i := 959) (by decide +kernel)⟩
theorem lw_p35 : lw_okq (⟨"FoldDeeds", "alikeUpTo", "(I)I"⟩, 14) := ⟨⟨by decide +kernel, by decide +kernel⟩, List.mem_of_getElem? (i := 22) (by decide +kernel), List.mem_of_getElem? (i := 962) (by decide +kernel), List.mem_of_getElem? (i := 963) (by decide +kernel)⟩
theorem lw_p36 : lw_okq (⟨"FoldDeeds$Trial", "drawBelow", "(I)I"⟩, 4) := ⟨⟨by decide +kernel, by decide +kernel⟩, List.mem_of_getElem? (i := 286) (by decide +kernel), List.mem_of_getElem? (i := 983) (by decide +kernel), List.mem_of_getElem? (i := 984) (by decide +kernel)⟩
theorem lw_p37 : lw_okq (⟨"FoldDeeds$Trial", "tryFold", "(LFoldDeeds$Market;LFoldDeeds$Rule;II)V"⟩, 4) := ⟨⟨by decide +kernel, by decide +kernel⟩, List.mem_of_getElem? (i := 286) (by decide +kernel), List.mem_of_getElem? (i := 991) (by decide +kernel), List.mem_of_getElem? (i := 992) (by decide +kernel)⟩
theorem lw_p38 : lw_okq (⟨"FoldDeedsModel", "four", "(I)V"⟩, 46) := ⟨⟨by decide +kernel, by decide +kernel⟩, List.mem_of_getElem? (i := 1018) (by decide +kernel), List.mem_of_getElem? (i := 1167) (by decide +kernel), List.mem_of_getElem? (i := 1168) (by decide +kernel)⟩
theorem lw_p39 : lw_okq (⟨"FoldDeedsModel", "readsAll", "()Z"⟩, 46) := ⟨⟨by decide +kernel, by decide +kernel⟩, List.mem_of_getElem? (i := 1018) (by decide +kernel), List.mem_of_getElem? (i := 1179) (by decide +kernel), List.mem_of_getElem? (i := 1180) (by decide +kernel)⟩
theorem lw_p40 : lw_okq (⟨"FoldDeedsModel", "clauseHere", "()Z"⟩, 46) := ⟨⟨by decide +kernel, by decide +kernel⟩, List.mem_of_getElem? (i := 1018) (by decide +kernel), List.mem_of_getElem? (i := 1183) (by decide +kernel), List.mem_of_getElem? (i := 1184) (by decide +kernel)⟩
theorem lw_p41 : lw_okq (⟨"FoldDeedsModel", "see", "()I"⟩, 46) := ⟨⟨by decide +kernel, by decide +kernel⟩, List.mem_of_getElem? (i := 1018) (by decide +kernel), List.mem_of_getElem? (i := 1187) (by decide +kernel), List.mem_of_getElem? (i := 1188) (by decide +kernel)⟩
theorem lw_p42 : lw_okq (⟨"FoldDeedsModel", "isClothWord", "()Z"⟩, 46) := ⟨⟨by decide +kernel, by decide +kernel⟩, List.mem_of_getElem? (i := 1018) (by decide +kernel), List.mem_of_getElem? (i := 1191) (by decide +kernel), List.mem_of_getElem? (i := 1192) (by decide +kernel)⟩
theorem lw_p43 : lw_okq (⟨"FoldDeedsModel", "isWord", "(J)Z"⟩, 46) := ⟨⟨by decide +kernel, by decide +kernel⟩, List.mem_of_getElem? (i := 1018) (by decide +kernel), List.mem_of_getElem? (i := 1196) (by decide +kernel), List.mem_of_getElem? (i := 1197) (by decide +kernel)⟩
theorem lw_p44 : lw_okq (⟨"FoldDeedsModel", "isLetter", "(I)Z"⟩, 46) := ⟨⟨by decide +kernel, by decide +kernel⟩, List.mem_of_getElem? (i := 1018) (by decide +kernel), List.mem_of_getElem? (i := 1200) (by decide +kernel), List.mem_of_getElem? (i := 1201) (by decide +kernel)⟩
theorem lw_p45 : lw_okq (⟨"FoldDeedsModel", "fails", "(II)Z"⟩, 46) := ⟨⟨by decide +kernel, by decide +kernel⟩, List.mem_of_getElem? (i := 1018) (by decide +kernel), List.mem_of_getElem? (i := 1209) (by decide +kernel), List.mem_of_getElem? (i := 1210) (by decide +kernel)⟩
theorem lw_p46 : lw_okq (⟨"FoldDeedsModel", "clothLineHere", "(I)Z"⟩, 46) := ⟨⟨by decide +kernel, by decide +kernel⟩, List.mem_of_getElem? (i := 1018) (by decide +kernel), List.mem_of_getElem? (i := 1213) (by decide +kernel), List.mem_of_getElem? (i := 1214) (by decide +kernel)⟩
theorem lw_p47 : lw_okq (⟨"FoldDeedsModel", "isClothHere", "(I)Z"⟩, 46) := ⟨⟨by decide +kernel, by decide +kernel⟩, List.mem_of_getElem? (i := 1018) (by decide +kernel), List.mem_of_getElem? (i := 1217) (by decide +kernel), List.mem_of_getElem? (i := 1218) (by decide +kernel)⟩
def lw_privs_3 : List (MethodName × Nat) := [(⟨"FoldDeeds", "findSo", "()I"⟩, 14), (⟨"FoldDeeds", "explainsLogs", "(LFoldDeeds$Rule;)Z"⟩, 14), (⟨"FoldDeeds", "alikeAt", "(I)I"⟩, 14), (⟨"FoldDeeds", "alikeUpTo", "(I)I"⟩, 14), (⟨"FoldDeeds$Trial", "drawBelow", "(I)I"⟩, 4), (⟨"FoldDeeds$Trial", "tryFold", "(LFoldDeeds$Market;LFoldDeeds$Rule;II)V"⟩, 4), (⟨"FoldDeedsModel", "four", "(I)V"⟩, 46), (⟨"FoldDeedsModel", "readsAll", "()Z"⟩, 46), (⟨"FoldDeedsModel", "clauseHere", "()Z"⟩, 46), (⟨"FoldDeedsModel", "see", "()I"⟩, 46), (⟨"FoldDeedsModel", "isClothWord", "()Z"⟩, 46), (⟨"FoldDeedsModel", "isWord", "(J)Z"⟩, 46), (⟨"FoldDeedsModel", "isLetter", "(I)Z"⟩, 46), (⟨"FoldDeedsModel", "fails", "(II)Z"⟩, 46), (⟨"FoldDeedsModel", "clothLineHere", "(I)Z"⟩, 46), (⟨"FoldDeedsModel", "isClothHere", "(I)Z"⟩, 46)]
theorem lw_r3 : ∀ q ∈ lw_privs_3, lw_okq q := List.forall_mem_cons.mpr ⟨lw_p32, List.forall_mem_cons.mpr ⟨lw_p33, List.forall_mem_cons.mpr ⟨lw_p34, List.forall_mem_cons.mpr ⟨lw_p35, List.forall_mem_cons.mpr ⟨lw_p36, List.forall_mem_cons.mpr ⟨lw_p37, List.forall_mem_cons.mpr ⟨lw_p38, List.forall_mem_cons.mpr ⟨lw_p39, List.forall_mem_cons.mpr ⟨lw_p40, List.forall_mem_cons.mpr ⟨lw_p41, List.forall_mem_cons.mpr ⟨lw_p42, List.forall_mem_cons.mpr ⟨lw_p43, List.forall_mem_cons.mpr ⟨lw_p44, List.forall_mem_cons.mpr ⟨lw_p45, List.forall_mem_cons.mpr ⟨lw_p46, List.forall_mem_cons.mpr ⟨lw_p47, fun _ h => absurd h List.not_mem_nil⟩⟩⟩⟩⟩⟩⟩⟩⟩⟩⟩⟩⟩⟩⟩⟩
theorem lw_p48 : lw_okq (⟨"FoldDeedsModel", "passWord", "()V"⟩, 46) := ⟨⟨by decide +kernel, by decide +kernel⟩, List.mem_of_getElem? (i := 1018) (by decide +kernel), List.mem_of_getElem? (i := 1221) (by decide +kernel), List.mem_of_getElem? (i := 1222) (by decide +kernel)⟩
theorem lw_p49 : lw_okq (⟨"FoldDeedsModel", "cellHere", "(III)Z"⟩, 46) := ⟨⟨by decide +kernel, by decide +kernel⟩, List.mem_of_getElem? (i := 1018) (by decide +kernel), List.mem_of_getElem? (i := 1225) (by decide +kernel), List.mem_of_getElem? (i := 1226) (by decide +kernel)⟩
theorem lw_p50 : lw_okq (⟨"FoldDeedsModel", "numberHere", "(II)Z"⟩, 46) := ⟨⟨by decide +kernel, by decide +kernel⟩, List.mem_of_getElem? (i := 1018) (by decide +kernel), List.mem_of_getElem? (i := 1229) (by decide +kernel), List.mem_of_getElem? (i := 1230) (by decide +kernel)⟩
theorem lw_p51 : lw_okq (⟨"FoldDeedsModel", "isDigit", "(I)Z"⟩, 46) := ⟨⟨by decide +kernel, by decide +kernel⟩, List.mem_of_getElem? (i := 1018) (by decide +kernel), List.mem_of_getElem? (i := 1233) (by decide +kernel), List.mem_of_getElem? (i := 1234) (by decide +kernel)⟩
theorem lw_p52 : lw_okq (⟨"FoldDeedsModel", "isPersonHere", "(I)Z"⟩, 46) := ⟨⟨by decide +kernel, by decide +kernel⟩, List.mem_of_getElem? (i := 1018) (by decide +kernel), List.mem_of_getElem? (i := 1240) (by decide +kernel), List.mem_of_getElem? (i := 1241) (by decide +kernel)⟩
theorem lw_p53 : lw_okq (⟨"FoldDeedsModel", "isOneOfRow", "(IIII)Z"⟩, 46) := ⟨⟨by decide +kernel, by decide +kernel⟩, List.mem_of_getElem? (i := 1018) (by decide +kernel), List.mem_of_getElem? (i := 1244) (by decide +kernel), List.mem_of_getElem? (i := 1245) (by decide +kernel)⟩
theorem lw_p54 : lw_okq (⟨"FoldDeedsModel", "isPriceHere", "()Z"⟩, 46) := ⟨⟨by decide +kernel, by decide +kernel⟩, List.mem_of_getElem? (i := 1018) (by decide +kernel), List.mem_of_getElem? (i := 1248) (by decide +kernel), List.mem_of_getElem? (i := 1249) (by decide +kernel)⟩
theorem lw_p55 : lw_okq (⟨"FoldDeedsModel", "sum", "()Z"⟩, 46) := ⟨⟨by decide +kernel, by decide +kernel⟩, List.mem_of_getElem? (i := 1018) (by decide +kernel), List.mem_of_getElem? (i := 1252) (by decide +kernel), List.mem_of_getElem? (i := 1253) (by decide +kernel)⟩
theorem lw_p56 : lw_okq (⟨"FoldDeedsModel", "term", "()Z"⟩, 46) := ⟨⟨by decide +kernel, by decide +kernel⟩, List.mem_of_getElem? (i := 1018) (by decide +kernel), List.mem_of_getElem? (i := 1256) (by decide +kernel), List.mem_of_getElem? (i := 1257) (by decide +kernel)⟩
theorem lw_p57 : lw_okq (⟨"FoldDeedsModel", "value", "()Z"⟩, 46) := ⟨⟨by decide +kernel, by decide +kernel⟩, List.mem_of_getElem? (i := 1018) (by decide +kernel), List.mem_of_getElem? (i := 1260) (by decide +kernel), List.mem_of_getElem? (i := 1261) (by decide +kernel)⟩
theorem lw_p58 : lw_okq (⟨"FoldDeedsModel", "makes", "(I)Z"⟩, 46) := ⟨⟨by decide +kernel, by decide +kernel⟩, List.mem_of_getElem? (i := 1018) (by decide +kernel), List.mem_of_getElem? (i := 1265) (by decide +kernel), List.mem_of_getElem? (i := 1266) (by decide +kernel)⟩
theorem lw_p59 : lw_okq (⟨"FoldDeedsModel", "puts", "(II)V"⟩, 46) := ⟨⟨by decide +kernel, by decide +kernel⟩, List.mem_of_getElem? (i := 1018) (by decide +kernel), List.mem_of_getElem? (i := 1269) (by decide +kernel), List.mem_of_getElem? (i := 1270) (by decide +kernel)⟩
theorem lw_p60 : lw_okq (⟨"FoldDeedsModel", "wordHere", "()I"⟩, 46) := ⟨⟨by decide +kernel, by decide +kernel⟩, List.mem_of_getElem? (i := 1018) (by decide +kernel), List.mem_of_getElem? (i := 1273) (by decide +kernel), List.mem_of_getElem? (i := 1274) (by decide +kernel)⟩
theorem lw_p61 : lw_okq (⟨"FoldDeedsModel", "takesWord", "(J)Z"⟩, 46) := ⟨⟨by decide +kernel, by decide +kernel⟩, List.mem_of_getElem? (i := 1018) (by decide +kernel), List.mem_of_getElem? (i := 1287) (by decide +kernel), List.mem_of_getElem? (i := 1288) (by decide +kernel)⟩
theorem lw_p62 : lw_okq (⟨"FoldDeedsModel", "tested", "()Z"⟩, 46) := ⟨⟨by decide +kernel, by decide +kernel⟩, List.mem_of_getElem? (i := 1018) (by decide +kernel), List.mem_of_getElem? (i := 1291) (by decide +kernel), List.mem_of_getElem? (i := 1292) (by decide +kernel)⟩
theorem lw_p63 : lw_okq (⟨"FoldDeedsModel", "fact", "()Z"⟩, 46) := ⟨⟨by decide +kernel, by decide +kernel⟩, List.mem_of_getElem? (i := 1018) (by decide +kernel), List.mem_of_getElem? (i := 1295) (by decide +kernel), List.mem_of_getElem? (i := 1296) (by decide +kernel)⟩
def lw_privs_4 : List (MethodName × Nat) := [(⟨"FoldDeedsModel", "passWord", "()V"⟩, 46), (⟨"FoldDeedsModel", "cellHere", "(III)Z"⟩, 46), (⟨"FoldDeedsModel", "numberHere", "(II)Z"⟩, 46), (⟨"FoldDeedsModel", "isDigit", "(I)Z"⟩, 46), (⟨"FoldDeedsModel", "isPersonHere", "(I)Z"⟩, 46), (⟨"FoldDeedsModel", "isOneOfRow", "(IIII)Z"⟩, 46), (⟨"FoldDeedsModel", "isPriceHere", "()Z"⟩, 46), (⟨"FoldDeedsModel", "sum", "()Z"⟩, 46), (⟨"FoldDeedsModel", "term", "()Z"⟩, 46), (⟨"FoldDeedsModel", "value", "()Z"⟩, 46), (⟨"FoldDeedsModel", "makes", "(I)Z"⟩, 46), (⟨"FoldDeedsModel", "puts", "(II)V"⟩, 46), (⟨"FoldDeedsModel", "wordHere", "()I"⟩, 46), (⟨"FoldDeedsModel", "takesWord", "(J)Z"⟩, 46), (⟨"FoldDeedsModel", "tested", "()Z"⟩, 46), (⟨"FoldDeedsModel", "fact", "()Z"⟩, 46)]
theorem lw_r4 : ∀ q ∈ lw_privs_4, lw_okq q := List.forall_mem_cons.mpr ⟨lw_p48, List.forall_mem_cons.mpr ⟨lw_p49, List.forall_mem_cons.mpr ⟨lw_p50, List.forall_mem_cons.mpr ⟨lw_p51, List.forall_mem_cons.mpr ⟨lw_p52, List.forall_mem_cons.mpr ⟨lw_p53, List.forall_mem_cons.mpr ⟨lw_p54, List.forall_mem_cons.mpr ⟨lw_p55, List.forall_mem_cons.mpr ⟨lw_p56, List.forall_mem_cons.mpr ⟨lw_p57, List.forall_mem_cons.mpr ⟨lw_p58, List.forall_mem_cons.mpr ⟨lw_p59, List.forall_mem_cons.mpr ⟨lw_p60, List.forall_mem_cons.mpr ⟨lw_p61, List.forall_mem_cons.mpr ⟨lw_p62, List.forall_mem_cons.mpr ⟨lw_p63, fun _ h => absurd h List.not_mem_nil⟩⟩⟩⟩⟩⟩⟩⟩⟩⟩⟩⟩⟩⟩⟩⟩
theorem lw_p64 : lw_okq (⟨"FoldDeedsModel", "opens", "(I)Z"⟩, 46) := ⟨⟨by decide +kernel, by decide +kernel⟩, List.mem_of_getElem? (i := 1018) (by decide +kernel), List.mem_of_getElem? (i := 1300) (by decide +kernel), List.mem_of_getElem? (i := 1301) (by decide +kernel)⟩
theorem lw_p65 : lw_okq (⟨"FoldDeedsModel", "compare", "()Z"⟩, 46) := ⟨⟨by decide +kernel, by decide +kernel⟩, List.mem_of_getElem? (i := 1018) (by decide +kernel), List.mem_of_getElem? (i := 1304) (by decide +kernel), List.mem_of_getElem? (i := 1305) (by decide +kernel)⟩
theorem lw_p66 : lw_okq (⟨"FoldDeedsModel", "closes", "()V"⟩, 46) := ⟨⟨by decide +kernel, by decide +kernel⟩, List.mem_of_getElem? (i := 1018) (by decide +kernel), List.mem_of_getElem? (i := 1308) (by decide +kernel), List.mem_of_getElem? (i := 1309) (by decide +kernel)⟩
theorem lw_p67 : lw_okq (⟨"FoldDeedsModel", "settles", "(I)V"⟩, 46) := ⟨⟨by decide +kernel, by decide +kernel⟩, List.mem_of_getElem? (i := 1018) (by decide +kernel), List.mem_of_getElem? (i := 1312) (by decide +kernel), List.mem_of_getElem? (i := 1313) (by decide +kernel)⟩
theorem lw_p68 : lw_okq (⟨"FoldDeedsModel", "isInside", "()Z"⟩, 46) := ⟨⟨by decide +kernel, by decide +kernel⟩, List.mem_of_getElem? (i := 1018) (by decide +kernel), List.mem_of_getElem? (i := 1319) (by decide +kernel), List.mem_of_getElem? (i := 1320) (by decide +kernel)⟩
theorem lw_p69 : lw_okq (⟨"FoldDeedsModel", "begins", "()V"⟩, 46) := ⟨⟨by decide +kernel, by decide +kernel⟩, List.mem_of_getElem? (i := 1018) (by decide +kernel), List.mem_of_getElem? (i := 1329) (by decide +kernel), List.mem_of_getElem? (i := 1330) (by decide +kernel)⟩
theorem lw_p70 : lw_okq (⟨"FoldDeedsModel", "liesOpen", "()V"⟩, 46) := ⟨⟨by decide +kernel, by decide +kernel⟩, List.mem_of_getElem? (i := 1018) (by decide +kernel), List.mem_of_getElem? (i := 1333) (by decide +kernel), List.mem_of_getElem? (i := 1334) (by decide +kernel)⟩
theorem lw_p71 : lw_okq (⟨"FoldDeedsModel", "isRule", "(I)Z"⟩, 46) := ⟨⟨by decide +kernel, by decide +kernel⟩, List.mem_of_getElem? (i := 1018) (by decide +kernel), List.mem_of_getElem? (i := 1341) (by decide +kernel), List.mem_of_getElem? (i := 1342) (by decide +kernel)⟩
theorem lw_p72 : lw_okq (⟨"FoldDeedsModel", "isCell", "(I)Z"⟩, 46) := ⟨⟨by decide +kernel, by decide +kernel⟩, List.mem_of_getElem? (i := 1018) (by decide +kernel), List.mem_of_getElem? (i := 1349) (by decide +kernel), List.mem_of_getElem? (i := 1350) (by decide +kernel)⟩
theorem lw_p73 : lw_okq (⟨"FoldDeedsModel", "cellOf", "(II)I"⟩, 46) := ⟨⟨by decide +kernel, by decide +kernel⟩, List.mem_of_getElem? (i := 1018) (by decide +kernel), List.mem_of_getElem? (i := 1354) (by decide +kernel), List.mem_of_getElem? (i := 1355) (by decide +kernel)⟩
theorem lw_p74 : lw_okq (⟨"FoldDeedsModel", "isJoint", "(I)Z"⟩, 46) := ⟨⟨by decide +kernel, by decide +kernel⟩, List.mem_of_getElem? (i := 1018) (by decide +kernel), List.mem_of_getElem? (i := 1362) (by decide +kernel), List.mem_of_getElem? (i := 1363) (by decide +kernel)⟩
theorem lw_p75 : lw_okq (⟨"FoldDeedsModel", "isCloth", "()Z"⟩, 46) := ⟨⟨by decide +kernel, by decide +kernel⟩, List.mem_of_getElem? (i := 1018) (by decide +kernel), List.mem_of_getElem? (i := 1366) (by decide +kernel), List.mem_of_getElem? (i := 1367) (by decide +kernel)⟩
theorem lw_p76 : lw_okq (⟨"FoldDeedsModel", "isPerson", "(I)Z"⟩, 46) := ⟨⟨by decide +kernel, by decide +kernel⟩, List.mem_of_getElem? (i := 1018) (by decide +kernel), List.mem_of_getElem? (i := 1374) (by decide +kernel), List.mem_of_getElem? (i := 1375) (by decide +kernel)⟩
theorem lw_p77 : lw_okq (⟨"FoldDeedsModel", "cellsOf", "(I)I"⟩, 46) := ⟨⟨by decide +kernel, by decide +kernel⟩, List.mem_of_getElem? (i := 1018) (by decide +kernel), List.mem_of_getElem? (i := 1378) (by decide +kernel), List.mem_of_getElem? (i := 1379) (by decide +kernel)⟩
theorem lw_p78 : lw_okq (⟨"FoldDeedsModel", "thickAt", "(I)I"⟩, 46) := ⟨⟨by decide +kernel, by decide +kernel⟩, List.mem_of_getElem? (i := 1018) (by decide +kernel), List.mem_of_getElem? (i := 1386) (by decide +kernel), List.mem_of_getElem? (i := 1387) (by decide +kernel)⟩
theorem lw_p79 : lw_okq (⟨"FoldDeedsModel", "isFold", "(IIII)Z"⟩, 46) := ⟨⟨by decide +kernel, by decide +kernel⟩, List.mem_of_getElem? (i := 1018) (by decide +kernel), List.mem_of_getElem? (i := 1398) (by decide +kernel), List.mem_of_getElem? (i := 1399) (by decide +kernel)⟩
def lw_privs_5 : List (MethodName × Nat) := [(⟨"FoldDeedsModel", "opens", "(I)Z"⟩, 46), (⟨"FoldDeedsModel", "compare", "()Z"⟩, 46), (⟨"FoldDeedsModel", "closes", "()V"⟩, 46), (⟨"FoldDeedsModel", "settles", "(I)V"⟩, 46), (⟨"FoldDeedsModel", "isInside", "()Z"⟩, 46), (⟨"FoldDeedsModel", "begins", "()V"⟩, 46), (⟨"FoldDeedsModel", "liesOpen", "()V"⟩, 46), (⟨"FoldDeedsModel", "isRule", "(I)Z"⟩, 46), (⟨"FoldDeedsModel", "isCell", "(I)Z"⟩, 46), (⟨"FoldDeedsModel", "cellOf", "(II)I"⟩, 46), (⟨"FoldDeedsModel", "isJoint", "(I)Z"⟩, 46), (⟨"FoldDeedsModel", "isCloth", "()Z"⟩, 46), (⟨"FoldDeedsModel", "isPerson", "(I)Z"⟩, 46), (⟨"FoldDeedsModel", "cellsOf", "(I)I"⟩, 46), (⟨"FoldDeedsModel", "thickAt", "(I)I"⟩, 46), (⟨"FoldDeedsModel", "isFold", "(IIII)Z"⟩, 46)]
theorem lw_r5 : ∀ q ∈ lw_privs_5, lw_okq q := List.forall_mem_cons.mpr ⟨lw_p64, List.forall_mem_cons.mpr ⟨lw_p65, List.forall_mem_cons.mpr ⟨lw_p66, List.forall_mem_cons.mpr ⟨lw_p67, List.forall_mem_cons.mpr ⟨lw_p68, List.forall_mem_cons.mpr ⟨lw_p69, List.forall_mem_cons.mpr ⟨lw_p70, List.forall_mem_cons.mpr ⟨lw_p71, List.forall_mem_cons.mpr ⟨lw_p72, List.forall_mem_cons.mpr ⟨lw_p73, List.forall_mem_cons.mpr ⟨lw_p74, List.forall_mem_cons.mpr ⟨lw_p75, List.forall_mem_cons.mpr ⟨lw_p76, List.forall_mem_cons.mpr ⟨lw_p77, List.forall_mem_cons.mpr ⟨lw_p78, List.forall_mem_cons.mpr ⟨lw_p79, fun _ h => absurd h List.not_mem_nil⟩⟩⟩⟩⟩⟩⟩⟩⟩⟩⟩⟩⟩⟩⟩⟩
theorem lw_p80 : lw_okq (⟨"FoldDeedsModel", "isLine", "(I)Z"⟩, 46) := ⟨⟨by decide +kernel, by decide +kernel⟩, List.mem_of_getElem? (i := 1018) (by decide +kernel), List.mem_of_getElem? (i := 1402) (by decide +kernel), List.mem_of_getElem? (i := 1403) (by decide +kernel)⟩
theorem lw_p81 : lw_okq (⟨"FoldDeedsModel", "canCrease", "(II)Z"⟩, 46) := ⟨⟨by decide +kernel, by decide +kernel⟩, List.mem_of_getElem? (i := 1018) (by decide +kernel), List.mem_of_getElem? (i := 1406) (by decide +kernel), List.mem_of_getElem? (i := 1407) (by decide +kernel)⟩
theorem lw_p82 : lw_okq (⟨"FoldDeedsModel", "kindBy", "(III)I"⟩, 46) := ⟨⟨by decide +kernel, by decide +kernel⟩, List.mem_of_getElem? (i := 1018) (by decide +kernel), List.mem_of_getElem? (i := 1410) (by decide +kernel), List.mem_of_getElem? (i := 1411) (by decide +kernel)⟩
theorem lw_p83 : lw_okq (⟨"FoldDeedsModel", "prices", "(IIII)I"⟩, 46) := ⟨⟨by decide +kernel, by decide +kernel⟩, List.mem_of_getElem? (i := 1018) (by decide +kernel), List.mem_of_getElem? (i := 1414) (by decide +kernel), List.mem_of_getElem? (i := 1415) (by decide +kernel)⟩
theorem lw_p84 : lw_okq (⟨"FoldDeedsModel", "isMoved", "(III)Z"⟩, 46) := ⟨⟨by decide +kernel, by decide +kernel⟩, List.mem_of_getElem? (i := 1018) (by decide +kernel), List.mem_of_getElem? (i := 1418) (by decide +kernel), List.mem_of_getElem? (i := 1419) (by decide +kernel)⟩
theorem lw_p85 : lw_okq (⟨"FoldDeedsModel", "words", "(IIII)V"⟩, 46) := ⟨⟨by decide +kernel, by decide +kernel⟩, List.mem_of_getElem? (i := 1018) (by decide +kernel), List.mem_of_getElem? (i := 1422) (by decide +kernel), List.mem_of_getElem? (i := 1423) (by decide +kernel)⟩
theorem lw_p86 : lw_okq (⟨"FoldDeedsModel", "summedBy", "(I)J"⟩, 46) := ⟨⟨by decide +kernel, by decide +kernel⟩, List.mem_of_getElem? (i := 1018) (by decide +kernel), List.mem_of_getElem? (i := 1426) (by decide +kernel), List.mem_of_getElem? (i := 1427) (by decide +kernel)⟩
theorem lw_p87 : lw_okq (⟨"FoldDeedsModel", "reckons", "(III)J"⟩, 46) := ⟨⟨by decide +kernel, by decide +kernel⟩, List.mem_of_getElem? (i := 1018) (by decide +kernel), List.mem_of_getElem? (i := 1430) (by decide +kernel), List.mem_of_getElem? (i := 1431) (by decide +kernel)⟩
theorem lw_p88 : lw_okq (⟨"FoldDeedsModel", "push", "(J)V"⟩, 46) := ⟨⟨by decide +kernel, by decide +kernel⟩, List.mem_of_getElem? (i := 1018) (by decide +kernel), List.mem_of_getElem? (i := 1434) (by decide +kernel), List.mem_of_getElem? (i := 1435) (by decide +kernel)⟩
theorem lw_p89 : lw_okq (⟨"FoldDeedsModel", "pop", "()J"⟩, 46) := ⟨⟨by decide +kernel, by decide +kernel⟩, List.mem_of_getElem? (i := 1018) (by decide +kernel), List.mem_of_getElem? (i := 1438) (by decide +kernel), List.mem_of_getElem? (i := 1439) (by decide +kernel)⟩
theorem lw_p90 : lw_okq (⟨"FoldDeedsModel", "keepsAct", "()V"⟩, 46) := ⟨⟨by decide +kernel, by decide +kernel⟩, List.mem_of_getElem? (i := 1018) (by decide +kernel), List.mem_of_getElem? (i := 1446) (by decide +kernel), List.mem_of_getElem? (i := 1447) (by decide +kernel)⟩
theorem lw_p91 : lw_okq (⟨"FoldDeedsModel", "isFolded", "(II)Z"⟩, 46) := ⟨⟨by decide +kernel, by decide +kernel⟩, List.mem_of_getElem? (i := 1018) (by decide +kernel), List.mem_of_getElem? (i := 1450) (by decide +kernel), List.mem_of_getElem? (i := 1451) (by decide +kernel)⟩
theorem lw_p92 : lw_okq (⟨"FoldDeedsModel", "buys", "(IIII)V"⟩, 46) := ⟨⟨by decide +kernel, by decide +kernel⟩, List.mem_of_getElem? (i := 1018) (by decide +kernel), List.mem_of_getElem? (i := 1463) (by decide +kernel), List.mem_of_getElem? (i := 1464) (by decide +kernel)⟩
theorem lw_p93 : lw_okq (⟨"FoldDeedsModel", "turnsOver", "(III)V"⟩, 46) := ⟨⟨by decide +kernel, by decide +kernel⟩, List.mem_of_getElem? (i := 1018) (by decide +kernel), List.mem_of_getElem? (i := 1467) (by decide +kernel), List.mem_of_getElem? (i := 1468) (by decide +kernel)⟩
theorem lw_p94 : lw_okq (⟨"FoldDeedsModel", "keeps", "()V"⟩, 46) := ⟨⟨by decide +kernel, by decide +kernel⟩, List.mem_of_getElem? (i := 1018) (by decide +kernel), List.mem_of_getElem? (i := 1498) (by decide +kernel), List.mem_of_getElem? (i := 1499) (by decide +kernel)⟩
theorem lw_p95 : lw_okq (⟨"FoldDeedsModel", "findsFewest", "(III)V"⟩, 46) := ⟨⟨by decide +kernel, by decide +kernel⟩, List.mem_of_getElem? (i := 1018) (by decide +kernel), List.mem_of_getElem? (i := 1502) (by decide +kernel), List.mem_of_getElem? (i := 1503) (by decide +kernel)⟩
def lw_privs_6 : List (MethodName × Nat) := [(⟨"FoldDeedsModel", "isLine", "(I)Z"⟩, 46), (⟨"FoldDeedsModel", "canCrease", "(II)Z"⟩, 46), (⟨"FoldDeedsModel", "kindBy", "(III)I"⟩, 46), (⟨"FoldDeedsModel", "prices", "(IIII)I"⟩, 46), (⟨"FoldDeedsModel", "isMoved", "(III)Z"⟩, 46), (⟨"FoldDeedsModel", "words", "(IIII)V"⟩, 46), (⟨"FoldDeedsModel", "summedBy", "(I)J"⟩, 46), (⟨"FoldDeedsModel", "reckons", "(III)J"⟩, 46), (⟨"FoldDeedsModel", "push", "(J)V"⟩, 46), (⟨"FoldDeedsModel", "pop", "()J"⟩, 46), (⟨"FoldDeedsModel", "keepsAct", "()V"⟩, 46), (⟨"FoldDeedsModel", "isFolded", "(II)Z"⟩, 46), (⟨"FoldDeedsModel", "buys", "(IIII)V"⟩, 46), (⟨"FoldDeedsModel", "turnsOver", "(III)V"⟩, 46), (⟨"FoldDeedsModel", "keeps", "()V"⟩, 46), (⟨"FoldDeedsModel", "findsFewest", "(III)V"⟩, 46)]
theorem lw_r6 : ∀ q ∈ lw_privs_6, lw_okq q := List.forall_mem_cons.mpr ⟨lw_p80, List.forall_mem_cons.mpr ⟨lw_p81, List.forall_mem_cons.mpr ⟨lw_p82, List.forall_mem_cons.mpr ⟨lw_p83, List.forall_mem_cons.mpr ⟨lw_p84, List.forall_mem_cons.mpr ⟨lw_p85, List.forall_mem_cons.mpr ⟨lw_p86, List.forall_mem_cons.mpr ⟨lw_p87, List.forall_mem_cons.mpr ⟨lw_p88, List.forall_mem_cons.mpr ⟨lw_p89, List.forall_mem_cons.mpr ⟨lw_p90, List.forall_mem_cons.mpr ⟨lw_p91, List.forall_mem_cons.mpr ⟨lw_p92, List.forall_mem_cons.mpr ⟨lw_p93, List.forall_mem_cons.mpr ⟨lw_p94, List.forall_mem_cons.mpr ⟨lw_p95, fun _ h => absurd h List.not_mem_nil⟩⟩⟩⟩⟩⟩⟩⟩⟩⟩⟩⟩⟩⟩⟩⟩
theorem lw_p96 : lw_okq (⟨"FoldDeedsModel", "findsRow", "(III)Z"⟩, 46) := ⟨⟨by decide +kernel, by decide +kernel⟩, List.mem_of_getElem? (i := 1018) (by decide +kernel), List.mem_of_getElem? (i := 1506) (by decide +kernel), List.mem_of_getElem? (i := 1507) (by decide +kernel)⟩
theorem lw_p97 : lw_okq (⟨"FoldDeedsModel", "keepsPlace", "(I)V"⟩, 46) := ⟨⟨by decide +kernel, by decide +kernel⟩, List.mem_of_getElem? (i := 1018) (by decide +kernel), List.mem_of_getElem? (i := 1510) (by decide +kernel), List.mem_of_getElem? (i := 1511) (by decide +kernel)⟩
theorem lw_p98 : lw_okq (⟨"FoldDeedsModel", "isGoal", "(II)Z"⟩, 46) := ⟨⟨by decide +kernel, by decide +kernel⟩, List.mem_of_getElem? (i := 1018) (by decide +kernel), List.mem_of_getElem? (i := 1514) (by decide +kernel), List.mem_of_getElem? (i := 1515) (by decide +kernel)⟩
theorem lw_p99 : lw_okq (⟨"FoldDeedsModel", "areMarked", "()Z"⟩, 46) := ⟨⟨by decide +kernel, by decide +kernel⟩, List.mem_of_getElem? (i := 1018) (by decide +kernel), List.mem_of_getElem? (i := 1518) (by decide +kernel), List.mem_of_getElem? (i := 1519) (by decide +kernel)⟩
theorem lw_p100 : lw_okq (⟨"FoldDeedsModel", "laysPlace", "(I)V"⟩, 46) := ⟨⟨by decide +kernel, by decide +kernel⟩, List.mem_of_getElem? (i := 1018) (by decide +kernel), List.mem_of_getElem? (i := 1522) (by decide +kernel), List.mem_of_getElem? (i := 1523) (by decide +kernel)⟩
theorem lw_p101 : lw_okq (⟨"FoldDeedsModel", "foldsAsMarked", "(I)Z"⟩, 46) := ⟨⟨by decide +kernel, by decide +kernel⟩, List.mem_of_getElem? (i := 1018) (by decide +kernel), List.mem_of_getElem? (i := 1526) (by decide +kernel), List.mem_of_getElem? (i := 1527) (by decide +kernel)⟩
theorem lw_p102 : lw_okq (⟨"FoldDeedsModel", "laysBack", "()V"⟩, 46) := ⟨⟨by decide +kernel, by decide +kernel⟩, List.mem_of_getElem? (i := 1018) (by decide +kernel), List.mem_of_getElem? (i := 1530) (by decide +kernel), List.mem_of_getElem? (i := 1531) (by decide +kernel)⟩
theorem lw_p103 : lw_okq (⟨"FoldDeedsModel", "answerOfRow", "(I)I"⟩, 46) := ⟨⟨by decide +kernel, by decide +kernel⟩, List.mem_of_getElem? (i := 1018) (by decide +kernel), List.mem_of_getElem? (i := 1534) (by decide +kernel), List.mem_of_getElem? (i := 1535) (by decide +kernel)⟩
theorem lw_p104 : lw_okq (⟨"FoldDeedsModel", "findsStacks", "()V"⟩, 46) := ⟨⟨by decide +kernel, by decide +kernel⟩, List.mem_of_getElem? (i := 1018) (by decide +kernel), List.mem_of_getElem? (i := 1549) (by decide +kernel), List.mem_of_getElem? (i := 1550) (by decide +kernel)⟩
theorem lw_p105 : lw_okq (⟨"FoldDeedsModel", "isUsed", "(II)Z"⟩, 46) := ⟨⟨by decide +kernel, by decide +kernel⟩, List.mem_of_getElem? (i := 1018) (by decide +kernel), List.mem_of_getElem? (i := 1553) (by decide +kernel), List.mem_of_getElem? (i := 1554) (by decide +kernel)⟩
theorem lw_p106 : lw_okq (⟨"FoldDeedsModel", "keepsStack", "()V"⟩, 46) := ⟨⟨by decide +kernel, by decide +kernel⟩, List.mem_of_getElem? (i := 1018) (by decide +kernel), List.mem_of_getElem? (i := 1557) (by decide +kernel), List.mem_of_getElem? (i := 1558) (by decide +kernel)⟩
theorem lw_p107 : lw_okq (⟨"FoldDeedsModel", "isUncrossed", "()Z"⟩, 46) := ⟨⟨by decide +kernel, by decide +kernel⟩, List.mem_of_getElem? (i := 1018) (by decide +kernel), List.mem_of_getElem? (i := 1561) (by decide +kernel), List.mem_of_getElem? (i := 1562) (by decide +kernel)⟩
theorem lw_p108 : lw_okq (⟨"FoldDeedsModel", "hills", "()I"⟩, 46) := ⟨⟨by decide +kernel, by decide +kernel⟩, List.mem_of_getElem? (i := 1018) (by decide +kernel), List.mem_of_getElem? (i := 1568) (by decide +kernel), List.mem_of_getElem? (i := 1569) (by decide +kernel)⟩
theorem lw_p109 : lw_okq (⟨"FoldDeedsModel", "isAsMarked", "(I)Z"⟩, 46) := ⟨⟨by decide +kernel, by decide +kernel⟩, List.mem_of_getElem? (i := 1018) (by decide +kernel), List.mem_of_getElem? (i := 1572) (by decide +kernel), List.mem_of_getElem? (i := 1573) (by decide +kernel)⟩
theorem lw_p110 : lw_okq (⟨"FoldDeedsModel", "fillsFits", "()V"⟩, 46) := ⟨⟨by decide +kernel, by decide +kernel⟩, List.mem_of_getElem? (i := 1018) (by decide +kernel), List.mem_of_getElem? (i := 1604) (by decide +kernel), List.mem_of_getElem? (i := 1605) (by decide +kernel)⟩
theorem lw_p111 : lw_okq (⟨"FoldDeedsModel", "costAt", "(III)I"⟩, 46) := ⟨⟨by decide +kernel, by decide +kernel⟩, List.mem_of_getElem? (i := 1018) (by decide +kernel), List.mem_of_getElem? (i := 1608) (by decide +kernel), List.mem_of_getElem? (i := 1609) (by decide +kernel)⟩
def lw_privs_7 : List (MethodName × Nat) := [(⟨"FoldDeedsModel", "findsRow", "(III)Z"⟩, 46), (⟨"FoldDeedsModel", "keepsPlace", "(I)V"⟩, 46), (⟨"FoldDeedsModel", "isGoal", "(II)Z"⟩, 46), (⟨"FoldDeedsModel", "areMarked", "()Z"⟩, 46), (⟨"FoldDeedsModel", "laysPlace", "(I)V"⟩, 46), (⟨"FoldDeedsModel", "foldsAsMarked", "(I)Z"⟩, 46), (⟨"FoldDeedsModel", "laysBack", "()V"⟩, 46), (⟨"FoldDeedsModel", "answerOfRow", "(I)I"⟩, 46), (⟨"FoldDeedsModel", "findsStacks", "()V"⟩, 46), (⟨"FoldDeedsModel", "isUsed", "(II)Z"⟩, 46), (⟨"FoldDeedsModel", "keepsStack", "()V"⟩, 46), (⟨"FoldDeedsModel", "isUncrossed", "()Z"⟩, 46), (⟨"FoldDeedsModel", "hills", "()I"⟩, 46), (⟨"FoldDeedsModel", "isAsMarked", "(I)Z"⟩, 46), (⟨"FoldDeedsModel", "fillsFits", "()V"⟩, 46), (⟨"FoldDeedsModel", "costAt", "(III)I"⟩, 46)]
theorem lw_r7 : ∀ q ∈ lw_privs_7, lw_okq q := List.forall_mem_cons.mpr ⟨lw_p96, List.forall_mem_cons.mpr ⟨lw_p97, List.forall_mem_cons.mpr ⟨lw_p98, List.forall_mem_cons.mpr ⟨lw_p99, List.forall_mem_cons.mpr ⟨lw_p100, List.forall_mem_cons.mpr ⟨lw_p101, List.forall_mem_cons.mpr ⟨lw_p102, List.forall_mem_cons.mpr ⟨lw_p103, List.forall_mem_cons.mpr ⟨lw_p104, List.forall_mem_cons.mpr ⟨lw_p105, List.forall_mem_cons.mpr ⟨lw_p106, List.forall_mem_cons.mpr ⟨lw_p107, List.forall_mem_cons.mpr ⟨lw_p108, List.forall_mem_cons.mpr ⟨lw_p109, List.forall_mem_cons.mpr ⟨lw_p110, List.forall_mem_cons.mpr ⟨lw_p111, fun _ h => absurd h List.not_mem_nil⟩⟩⟩⟩⟩⟩⟩⟩⟩⟩⟩⟩⟩⟩⟩⟩
theorem lw_p112 : lw_okq (⟨"FoldDeedsModel", "alikeAt", "(I)I"⟩, 46) := ⟨⟨by decide +kernel, by decide +kernel⟩, List.mem_of_getElem? (i := 1018) (by decide +kernel), List.mem_of_getElem? (i := 1616) (by decide +kernel), List.mem_of_getElem? (i := 1617) (by decide +kernel)⟩
theorem lw_p113 : lw_okq (⟨"FoldDeedsModel", "foldsDrawn", "()Z"⟩, 46) := ⟨⟨by decide +kernel, by decide +kernel⟩, List.mem_of_getElem? (i := 1018) (by decide +kernel), List.mem_of_getElem? (i := 1629) (by decide +kernel), List.mem_of_getElem? (i := 1630) (by decide +kernel)⟩
theorem lw_p114 : lw_okq (⟨"FoldDeedsModel", "draw", "(I)I"⟩, 46) := ⟨⟨by decide +kernel, by decide +kernel⟩, List.mem_of_getElem? (i := 1018) (by decide +kernel), List.mem_of_getElem? (i := 1633) (by decide +kernel), List.mem_of_getElem? (i := 1634) (by decide +kernel)⟩
def lw_privs_8 : List (MethodName × Nat) := [(⟨"FoldDeedsModel", "alikeAt", "(I)I"⟩, 46), (⟨"FoldDeedsModel", "foldsDrawn", "()Z"⟩, 46), (⟨"FoldDeedsModel", "draw", "(I)I"⟩, 46)]
theorem lw_r8 : ∀ q ∈ lw_privs_8, lw_okq q := List.forall_mem_cons.mpr ⟨lw_p112, List.forall_mem_cons.mpr ⟨lw_p113, List.forall_mem_cons.mpr ⟨lw_p114, fun _ h => absurd h List.not_mem_nil⟩⟩⟩
def lw_privs : List (MethodName × Nat) := lw_privs_1 ++ (lw_privs_2 ++ (lw_privs_3 ++ (lw_privs_4 ++ (lw_privs_5 ++ (lw_privs_6 ++ (lw_privs_7 ++ (lw_privs_8)))))))
def lw_tbl : List Cond := k2_sels lw_privs ++ tables_1
theorem lw_privs_ok : ∀ q ∈ lw_privs, lw_okq q := by
  show ∀ q ∈ lw_privs_1 ++ (lw_privs_2 ++ (lw_privs_3 ++ (lw_privs_4 ++ (lw_privs_5 ++ (lw_privs_6 ++ (lw_privs_7 ++ (lw_privs_8))))))), lw_okq q
  exact List.forall_mem_append.mpr ⟨lw_r1, List.forall_mem_append.mpr ⟨lw_r2, List.forall_mem_append.mpr ⟨lw_r3, List.forall_mem_append.mpr ⟨lw_r4, List.forall_mem_append.mpr ⟨lw_r5, List.forall_mem_append.mpr ⟨lw_r6, List.forall_mem_append.mpr ⟨lw_r7, lw_r8⟩⟩⟩⟩⟩⟩⟩
-- ===== end of PART A; then your names; then what follows =====
/-! ===== BEGIN words of one list among another's, by their places ===== -/
theorem goodIn_r {big : List Cond} (ws : List Cond) (ps : List Nat) (hp : ws = ps.filterMap (fun i => big[i]?)) (h : ws.all goodWord = true) : GoodIn big ws := by
  intro w hw
  have h1 := List.all_eq_true.mp h w hw
  rw [hp] at hw
  obtain ⟨i, -, hi⟩ := List.mem_filterMap.mp hw
  have hm : w ∈ big := by first | exact List.mem_of_getElem? hi | exact List.getElem?_mem hi
  exact ⟨hm, good_of_word h1⟩
theorem goodIn_app {big a b : List Cond} (ha : GoodIn big a) (hb : GoodIn big b) : GoodIn big (a ++ b) := fun w h => (List.mem_append.mp h).elim (ha w) (hb w)
theorem goodIn_ca {big a b : List Cond} {c : Cond} (ha : GoodIn big (c :: a)) (hb : GoodIn big b) : GoodIn big (c :: (a ++ b)) := fun w h => (List.mem_cons.mp h).elim (fun e => ha w (List.mem_cons.mpr (Or.inl e))) (fun h => (List.mem_append.mp h).elim (fun h => ha w (List.mem_cons.mpr (Or.inr h))) (hb w))
theorem goodIn_sub {big ws : List Cond} (hm : ∀ w ∈ ws, w ∈ big) (h : ws.all goodWord = true) : GoodIn big ws := fun w hw => ⟨hm w hw, good_of_word (List.all_eq_true.mp h w hw)⟩
/-! ===== END ===== -/

/-! ===== BEGIN printed: names, fields, word lists, decode rows ===== -/
def RX0 : String := "FoldDeeds$Cloth"
def TX0 : u_T := fun k => match k with
  | 0 => ("FoldDeeds$Cloth", "cells", "I", false)
  | 1 => ("FoldDeeds$Cloth", "people", "I", false)
  | 2 => ("FoldDeeds$Cloth", "width", "I", false)
  | 3 => ("FoldDeeds$Cloth", "day", "I", false)
  | 4 => ("FoldDeeds$Cloth", "place", "[I", true)
  | 5 => ("FoldDeeds$Cloth", "layer", "[I", true)
  | 6 => ("FoldDeeds$Cloth", "up", "[I", true)
  | 7 => ("FoldDeeds$Cloth", "owner", "[I", true)
  | 8 => ("FoldDeeds$Cloth", "worth", "[I", true)
  | 9 => ("FoldDeeds$Cloth", "crease", "[I", true)
  | 10 => ("FoldDeeds$Cloth", "thickness", "[I", true)
  | _ => ("FoldDeeds$Cloth", "purse", "[I", true)
def tyX0 : Nat → FieldType := fun k => match k with
  | 0 => .int
  | 1 => .int
  | 2 => .int
  | 3 => .int
  | 4 => .array .int
  | 5 => .array .int
  | 6 => .array .int
  | 7 => .array .int
  | 8 => .array .int
  | 9 => .array .int
  | 10 => .array .int
  | _ => .array .int
abbrev wsX00 : List Cond := u_ws RX0 TX0 12
theorem nmX0 : ∀ a, a < 12 → ∀ b, b < 12 → a ≠ b → (TX0 a).2.1 ≠ (TX0 b).2.1 := by decide +kernel
theorem tyX0_ok : ∀ k, k < 12 → parseFieldDescriptor (TX0 k).2.2.1 = some (tyX0 k) := by decide +kernel
abbrev cX0_init : ByteArray := prog_2_method_1_code
def yX0_init : MethodName := ⟨RX0, "<init>", "()V"⟩
abbrev cX0_copyFrom : ByteArray := prog_2_method_2_code
def yX0_copyFrom : MethodName := ⟨RX0, "copyFrom", "(LFoldDeeds$Cloth;)V"⟩
abbrev cX0_beginFlat : ByteArray := prog_2_method_3_code
def yX0_beginFlat : MethodName := ⟨RX0, "beginFlat", "(I)V"⟩
abbrev cX0_layOpen : ByteArray := prog_2_method_4_code
def yX0_layOpen : MethodName := ⟨RX0, "layOpen", "()V"⟩
abbrev cX0_liesOpen : ByteArray := prog_2_method_5_code
def yX0_liesOpen : MethodName := ⟨RX0, "liesOpen", "()Z"⟩
abbrev cX0_hasCell : ByteArray := prog_2_method_6_code
def yX0_hasCell : MethodName := ⟨RX0, "hasCell", "(I)Z"⟩
abbrev cX0_hasJoint : ByteArray := prog_2_method_7_code
def yX0_hasJoint : MethodName := ⟨RX0, "hasJoint", "(I)Z"⟩
abbrev cX0_hasPerson : ByteArray := prog_2_method_8_code
def yX0_hasPerson : MethodName := ⟨RX0, "hasPerson", "(I)Z"⟩
abbrev cX0_hasFold : ByteArray := prog_2_method_9_code
def yX0_hasFold : MethodName := ⟨RX0, "hasFold", "(III)Z"⟩
abbrev cX0_foldCount : ByteArray := prog_2_method_10_code
def yX0_foldCount : MethodName := ⟨RX0, "foldCount", "()I"⟩
abbrev cX0_cellsOf : ByteArray := prog_2_method_11_code
def yX0_cellsOf : MethodName := ⟨RX0, "cellsOf", "(I)I"⟩
abbrev cX0_creasedJoints : ByteArray := prog_2_method_12_code
def yX0_creasedJoints : MethodName := ⟨RX0, "creasedJoints", "()I"⟩
abbrev cX0_moves : ByteArray := prog_2_method_13_code
def yX0_moves : MethodName := ⟨RX0, "moves", "(II)Z"⟩
abbrev cX0_movedCells : ByteArray := prog_2_method_14_code
def yX0_movedCells : MethodName := ⟨RX0, "movedCells", "(I)I"⟩
abbrev cX0_kindMade : ByteArray := prog_2_method_15_code
def yX0_kindMade : MethodName := ⟨RX0, "kindMade", "(II)I"⟩
abbrev cX0_creasesAllow : ByteArray := prog_2_method_16_code
def yX0_creasesAllow : MethodName := ⟨RX0, "creasesAllow", "(I)Z"⟩
abbrev cX0_keepsToMarks : ByteArray := prog_2_method_17_code
def yX0_keepsToMarks : MethodName := ⟨RX0, "keepsToMarks", "([II)Z"⟩
abbrev cX0_hasMarks : ByteArray := prog_2_method_18_code
def yX0_hasMarks : MethodName := ⟨RX0, "hasMarks", "([I)Z"⟩
abbrev cX0_lieFolded : ByteArray := prog_2_method_19_code
def yX0_lieFolded : MethodName := ⟨RX0, "lieFolded", "(LFoldDeeds$Cloth;I)V"⟩
abbrev cX0_turnCell : ByteArray := prog_2_method_20_code
def yX0_turnCell : MethodName := ⟨RX0, "turnCell", "(LFoldDeeds$Cloth;II)V"⟩
abbrev cX0_layersOn : ByteArray := prog_2_method_21_code
def yX0_layersOn : MethodName := ⟨RX0, "layersOn", "(I)I"⟩
abbrev cX0_countThickness : ByteArray := prog_2_method_22_code
def yX0_countThickness : MethodName := ⟨RX0, "countThickness", "()V"⟩
def RX1 : String := "FoldDeeds$ClothReader"
def TX1 : u_T := fun k => match k with
  | _ => ("FoldDeeds$ClothReader", "draft", "LFoldDeeds$Cloth;", true)
def tyX1 : Nat → FieldType := fun k => match k with
  | _ => .object "FoldDeeds$Cloth"
abbrev wsX10 : List Cond := u_ws RX1 TX1 1
theorem nmX1 : ∀ a, a < 1 → ∀ b, b < 1 → a ≠ b → (TX1 a).2.1 ≠ (TX1 b).2.1 := by decide +kernel
theorem tyX1_ok : ∀ k, k < 1 → parseFieldDescriptor (TX1 k).2.2.1 = some (tyX1 k) := by decide +kernel
abbrev cX1_init : ByteArray := prog_3_method_1_code
def yX1_init : MethodName := ⟨RX1, "<init>", "()V"⟩
abbrev cX1_read : ByteArray := prog_3_method_2_code
def yX1_read : MethodName := ⟨RX1, "read", "(LFoldDeeds$Text;)I"⟩
abbrev cX1_readClause : ByteArray := prog_3_method_3_code
def yX1_readClause : MethodName := ⟨RX1, "readClause", "(LFoldDeeds$Text;I)V"⟩
abbrev cX1_readCells : ByteArray := prog_3_method_4_code
def yX1_readCells : MethodName := ⟨RX1, "readCells", "(LFoldDeeds$Text;)V"⟩
abbrev cX1_readPerson : ByteArray := prog_3_method_5_code
def yX1_readPerson : MethodName := ⟨RX1, "readPerson", "(LFoldDeeds$Text;)V"⟩
abbrev cX1_readPair : ByteArray := prog_3_method_6_code
def yX1_readPair : MethodName := ⟨RX1, "readPair", "(LFoldDeeds$Text;I)V"⟩
def RX2 : String := "FoldDeeds$FoldSearch"
def TX2 : u_T := fun k => match k with
  | 0 => ("FoldDeeds$FoldSearch", "levels", "[LFoldDeeds$Cloth;", true)
  | 1 => ("FoldDeeds$FoldSearch", "row", "[I", true)
  | 2 => ("FoldDeeds$FoldSearch", "best", "[I", true)
  | _ => ("FoldDeeds$FoldSearch", "length", "I", false)
def tyX2 : Nat → FieldType := fun k => match k with
  | 0 => .array (.object "FoldDeeds$Cloth")
  | 1 => .array .int
  | 2 => .array .int
  | _ => .int
abbrev wsX20 : List Cond := u_ws RX2 TX2 4
theorem nmX2 : ∀ a, a < 4 → ∀ b, b < 4 → a ≠ b → (TX2 a).2.1 ≠ (TX2 b).2.1 := by decide +kernel
theorem tyX2_ok : ∀ k, k < 4 → parseFieldDescriptor (TX2 k).2.2.1 = some (tyX2 k) := by decide +kernel
abbrev cX2_init : ByteArray := prog_4_method_1_code
def yX2_init : MethodName := ⟨RX2, "<init>", "()V"⟩
abbrev cX2_answer : ByteArray := prog_4_method_2_code
def yX2_answer : MethodName := ⟨RX2, "answer", "(I)I"⟩
abbrev cX2_seekMarks : ByteArray := prog_4_method_3_code
def yX2_seekMarks : MethodName := ⟨RX2, "seekMarks", "(I[I)V"⟩
abbrev cX2_seekMarksFrom : ByteArray := prog_4_method_4_code
def yX2_seekMarksFrom : MethodName := ⟨RX2, "seekMarksFrom", "(I[I)V"⟩
abbrev cX2_keepRow : ByteArray := prog_4_method_5_code
def yX2_keepRow : MethodName := ⟨RX2, "keepRow", "(I)V"⟩
abbrev cX2_seekOwned : ByteArray := prog_4_method_6_code
def yX2_seekOwned : MethodName := ⟨RX2, "seekOwned", "(LFoldDeeds$Market;LFoldDeeds$Rule;LFoldDeeds$Cloth;II)V"⟩
abbrev cX2_ownsBy : ByteArray := prog_4_method_7_code
def yX2_ownsBy : MethodName := ⟨RX2, "ownsBy", "(LFoldDeeds$Market;LFoldDeeds$Rule;IIII)Z"⟩
def RX3 : String := "FoldDeeds$Market"
def TX3 : u_T := fun k => match k with
  | 0 => ("FoldDeeds$Market", "before", "LFoldDeeds$Cloth;", true)
  | 1 => ("FoldDeeds$Market", "prices", "[I", true)
  | 2 => ("FoldDeeds$Market", "words", "[J", true)
  | _ => ("FoldDeeds$Market", "stack", "[J", true)
def tyX3 : Nat → FieldType := fun k => match k with
  | 0 => .object "FoldDeeds$Cloth"
  | 1 => .array .int
  | 2 => .array .long
  | _ => .array .long
abbrev wsX30 : List Cond := u_ws RX3 TX3 4
theorem nmX3 : ∀ a, a < 4 → ∀ b, b < 4 → a ≠ b → (TX3 a).2.1 ≠ (TX3 b).2.1 := by decide +kernel
theorem tyX3_ok : ∀ k, k < 4 → parseFieldDescriptor (TX3 k).2.2.1 = some (tyX3 k) := by decide +kernel
abbrev cX3_init : ByteArray := prog_5_method_1_code
def yX3_init : MethodName := ⟨RX3, "<init>", "()V"⟩
abbrev cX3_quote : ByteArray := prog_5_method_2_code
def yX3_quote : MethodName := ⟨RX3, "quote", "(LFoldDeeds$Cloth;LFoldDeeds$Rule;II)I"⟩
abbrev cX3_priceOf : ByteArray := prog_5_method_3_code
def yX3_priceOf : MethodName := ⟨RX3, "priceOf", "(LFoldDeeds$Cloth;LFoldDeeds$Rule;I)I"⟩
abbrev cX3_settle : ByteArray := prog_5_method_4_code
def yX3_settle : MethodName := ⟨RX3, "settle", "(LFoldDeeds$Cloth;II)V"⟩
def RX4 : String := "FoldDeeds$Past"
def TX4 : u_T := fun k => match k with
  | 0 => ("FoldDeeds$Past", "kept", "[LFoldDeeds$Cloth;", true)
  | 1 => ("FoldDeeds$Past", "next", "I", false)
  | _ => ("FoldDeeds$Past", "size", "I", false)
def tyX4 : Nat → FieldType := fun k => match k with
  | 0 => .array (.object "FoldDeeds$Cloth")
  | 1 => .int
  | _ => .int
abbrev wsX40 : List Cond := u_ws RX4 TX4 3
theorem nmX4 : ∀ a, a < 3 → ∀ b, b < 3 → a ≠ b → (TX4 a).2.1 ≠ (TX4 b).2.1 := by decide +kernel
theorem tyX4_ok : ∀ k, k < 3 → parseFieldDescriptor (TX4 k).2.2.1 = some (tyX4 k) := by decide +kernel
abbrev cX4_init : ByteArray := prog_6_method_1_code
def yX4_init : MethodName := ⟨RX4, "<init>", "()V"⟩
abbrev cX4_keep : ByteArray := prog_6_method_2_code
def yX4_keep : MethodName := ⟨RX4, "keep", "(LFoldDeeds$Cloth;)V"⟩
abbrev cX4_bringBack : ByteArray := prog_6_method_3_code
def yX4_bringBack : MethodName := ⟨RX4, "bringBack", "(LFoldDeeds$Cloth;)V"⟩
abbrev cX4_forget : ByteArray := prog_6_method_4_code
def yX4_forget : MethodName := ⟨RX4, "forget", "()V"⟩
def RX5 : String := "FoldDeeds$Rule"
def TX5 : u_T := fun k => match k with
  | _ => ("FoldDeeds$Rule", "steps", "[I", true)
def tyX5 : Nat → FieldType := fun k => match k with
  | _ => .array .int
abbrev wsX50 : List Cond := u_ws RX5 TX5 1
theorem nmX5 : ∀ a, a < 1 → ∀ b, b < 1 → a ≠ b → (TX5 a).2.1 ≠ (TX5 b).2.1 := by decide +kernel
theorem tyX5_ok : ∀ k, k < 1 → parseFieldDescriptor (TX5 k).2.2.1 = some (tyX5 k) := by decide +kernel
abbrev cX5_init : ByteArray := prog_7_method_1_code
def yX5_init : MethodName := ⟨RX5, "<init>", "([II)V"⟩
abbrev cX5_sumFor : ByteArray := prog_7_method_2_code
def yX5_sumFor : MethodName := ⟨RX5, "sumFor", "([J[J)J"⟩
abbrev cX5_wordAt : ByteArray := prog_7_method_3_code
def yX5_wordAt : MethodName := ⟨RX5, "wordAt", "([JI)J"⟩
abbrev cX5_join : ByteArray := prog_7_method_4_code
def yX5_join : MethodName := ⟨RX5, "join", "(IJJ)J"⟩
def RX6 : String := "FoldDeeds$RuleReader"
def TX6 : u_T := fun k => match k with
  | 0 => ("FoldDeeds$RuleReader", "steps", "[I", true)
  | 1 => ("FoldDeeds$RuleReader", "size", "I", false)
  | _ => ("FoldDeeds$RuleReader", "items", "I", false)
def tyX6 : Nat → FieldType := fun k => match k with
  | 0 => .array .int
  | 1 => .int
  | _ => .int
abbrev wsX60 : List Cond := u_ws RX6 TX6 3
theorem nmX6 : ∀ a, a < 3 → ∀ b, b < 3 → a ≠ b → (TX6 a).2.1 ≠ (TX6 b).2.1 := by decide +kernel
theorem tyX6_ok : ∀ k, k < 3 → parseFieldDescriptor (TX6 k).2.2.1 = some (tyX6 k) := by decide +kernel
abbrev cX6_init : ByteArray := prog_8_method_1_code
def yX6_init : MethodName := ⟨RX6, "<init>", "()V"⟩
abbrev cX6_read : ByteArray := prog_8_method_2_code
def yX6_read : MethodName := ⟨RX6, "read", "(LFoldDeeds$Text;)I"⟩
abbrev cX6_made : ByteArray := prog_8_method_3_code
def yX6_made : MethodName := ⟨RX6, "made", "()LFoldDeeds$Rule;"⟩
abbrev cX6_readClause : ByteArray := prog_8_method_4_code
def yX6_readClause : MethodName := ⟨RX6, "readClause", "(LFoldDeeds$Text;I)V"⟩
abbrev cX6_readTest : ByteArray := prog_8_method_5_code
def yX6_readTest : MethodName := ⟨RX6, "readTest", "(LFoldDeeds$Text;I)V"⟩
abbrev cX6_readFact : ByteArray := prog_8_method_6_code
def yX6_readFact : MethodName := ⟨RX6, "readFact", "(LFoldDeeds$Text;I)V"⟩
abbrev cX6_takeComparison : ByteArray := prog_8_method_7_code
def yX6_takeComparison : MethodName := ⟨RX6, "takeComparison", "(LFoldDeeds$Text;)I"⟩
abbrev cX6_readSum : ByteArray := prog_8_method_8_code
def yX6_readSum : MethodName := ⟨RX6, "readSum", "(LFoldDeeds$Text;)V"⟩
abbrev cX6_takeTermSign : ByteArray := prog_8_method_9_code
def yX6_takeTermSign : MethodName := ⟨RX6, "takeTermSign", "(LFoldDeeds$Text;)I"⟩
abbrev cX6_takeFactorSign : ByteArray := prog_8_method_10_code
def yX6_takeFactorSign : MethodName := ⟨RX6, "takeFactorSign", "(LFoldDeeds$Text;)I"⟩
abbrev cX6_readValue : ByteArray := prog_8_method_11_code
def yX6_readValue : MethodName := ⟨RX6, "readValue", "(LFoldDeeds$Text;)V"⟩
abbrev cX6_countItem : ByteArray := prog_8_method_12_code
def yX6_countItem : MethodName := ⟨RX6, "countItem", "(LFoldDeeds$Text;I)V"⟩
abbrev cX6_addStep : ByteArray := prog_8_method_13_code
def yX6_addStep : MethodName := ⟨RX6, "addStep", "(I)V"⟩
def RX7 : String := "FoldDeeds$Sheet"
def TX7 : u_T := fun k => match k with
  | 0 => ("FoldDeeds$Sheet", "now", "LFoldDeeds$Cloth;", true)
  | 1 => ("FoldDeeds$Sheet", "told", "LFoldDeeds$Cloth;", true)
  | 2 => ("FoldDeeds$Sheet", "marks", "[I", true)
  | 3 => ("FoldDeeds$Sheet", "logFold", "[I", true)
  | 4 => ("FoldDeeds$Sheet", "logCoins", "[I", true)
  | 5 => ("FoldDeeds$Sheet", "logCount", "I", false)
  | 6 => ("FoldDeeds$Sheet", "force", "I", false)
  | _ => ("FoldDeeds$Sheet", "x", "I", false)
def tyX7 : Nat → FieldType := fun k => match k with
  | 0 => .object "FoldDeeds$Cloth"
  | 1 => .object "FoldDeeds$Cloth"
  | 2 => .array .int
  | 3 => .array .int
  | 4 => .array .int
  | 5 => .int
  | 6 => .int
  | _ => .int
abbrev wsX70 : List Cond := u_ws RX7 TX7 8
theorem nmX7 : ∀ a, a < 8 → ∀ b, b < 8 → a ≠ b → (TX7 a).2.1 ≠ (TX7 b).2.1 := by decide +kernel
theorem tyX7_ok : ∀ k, k < 8 → parseFieldDescriptor (TX7 k).2.2.1 = some (tyX7 k) := by decide +kernel
abbrev cX7_init : ByteArray := prog_9_method_1_code
def yX7_init : MethodName := ⟨RX7, "<init>", "()V"⟩
abbrev cX7_begin : ByteArray := prog_9_method_2_code
def yX7_begin : MethodName := ⟨RX7, "begin", "(LFoldDeeds$Cloth;)V"⟩
abbrev cX7_copyFrom : ByteArray := prog_9_method_3_code
def yX7_copyFrom : MethodName := ⟨RX7, "copyFrom", "(LFoldDeeds$Sheet;)V"⟩
def RX8 : String := "FoldDeeds$StackBook"
def TX8 : u_T := fun k => match k with
  | 0 => ("FoldDeeds$StackBook", "rows", "[I", true)
  | 1 => ("FoldDeeds$StackBook", "rowCount", "I", false)
  | 2 => ("FoldDeeds$StackBook", "cells", "I", false)
  | 3 => ("FoldDeeds$StackBook", "layer", "[I", true)
  | 4 => ("FoldDeeds$StackBook", "tally", "[I", true)
  | 5 => ("FoldDeeds$StackBook", "chosen", "I", false)
  | _ => ("FoldDeeds$StackBook", "first", "I", false)
def tyX8 : Nat → FieldType := fun k => match k with
  | 0 => .array .int
  | 1 => .int
  | 2 => .int
  | 3 => .array .int
  | 4 => .array .int
  | 5 => .int
  | _ => .int
abbrev wsX80 : List Cond := u_ws RX8 TX8 7
theorem nmX8 : ∀ a, a < 7 → ∀ b, b < 7 → a ≠ b → (TX8 a).2.1 ≠ (TX8 b).2.1 := by decide +kernel
theorem tyX8_ok : ∀ k, k < 7 → parseFieldDescriptor (TX8 k).2.2.1 = some (tyX8 k) := by decide +kernel
abbrev cX8_init : ByteArray := prog_10_method_1_code
def yX8_init : MethodName := ⟨RX8, "<init>", "()V"⟩
abbrev cX8_choose : ByteArray := prog_10_method_2_code
def yX8_choose : MethodName := ⟨RX8, "choose", "(I[I)V"⟩
abbrev cX8_markedAs : ByteArray := prog_10_method_3_code
def yX8_markedAs : MethodName := ⟨RX8, "markedAs", "([II)I"⟩
abbrev cX8_countLayers : ByteArray := prog_10_method_4_code
def yX8_countLayers : MethodName := ⟨RX8, "countLayers", "(I)V"⟩
abbrev cX8_firstAt : ByteArray := prog_10_method_5_code
def yX8_firstAt : MethodName := ⟨RX8, "firstAt", "(I)I"⟩
abbrev cX8_layersOf : ByteArray := prog_10_method_6_code
def yX8_layersOf : MethodName := ⟨RX8, "layersOf", "(I)I"⟩
abbrev cX8_bestCell : ByteArray := prog_10_method_7_code
def yX8_bestCell : MethodName := ⟨RX8, "bestCell", "()I"⟩
abbrev cX8_mostAlike : ByteArray := prog_10_method_8_code
def yX8_mostAlike : MethodName := ⟨RX8, "mostAlike", "(I)I"⟩
abbrev cX8_richestHills : ByteArray := prog_10_method_9_code
def yX8_richestHills : MethodName := ⟨RX8, "richestHills", "(I)I"⟩
abbrev cX8_countOf : ByteArray := prog_10_method_10_code
def yX8_countOf : MethodName := ⟨RX8, "countOf", "(I)I"⟩
abbrev cX8_clearTally : ByteArray := prog_10_method_11_code
def yX8_clearTally : MethodName := ⟨RX8, "clearTally", "()V"⟩
abbrev cX8_cellAt : ByteArray := prog_10_method_12_code
def yX8_cellAt : MethodName := ⟨RX8, "cellAt", "(II)I"⟩
abbrev cX8_shiftOf : ByteArray := prog_10_method_13_code
def yX8_shiftOf : MethodName := ⟨RX8, "shiftOf", "(I)I"⟩
abbrev cX8_makeRows : ByteArray := prog_10_method_14_code
def yX8_makeRows : MethodName := ⟨RX8, "makeRows", "(I)V"⟩
abbrev cX8_addFrom : ByteArray := prog_10_method_15_code
def yX8_addFrom : MethodName := ⟨RX8, "addFrom", "(II)V"⟩
abbrev cX8_crosses : ByteArray := prog_10_method_16_code
def yX8_crosses : MethodName := ⟨RX8, "crosses", "(II)Z"⟩
abbrev cX8_makeRoom : ByteArray := prog_10_method_17_code
def yX8_makeRoom : MethodName := ⟨RX8, "makeRoom", "(II)V"⟩
abbrev cX8_closeRoom : ByteArray := prog_10_method_18_code
def yX8_closeRoom : MethodName := ⟨RX8, "closeRoom", "(II)V"⟩
abbrev cX8_addRow : ByteArray := prog_10_method_19_code
def yX8_addRow : MethodName := ⟨RX8, "addRow", "(I)V"⟩
def RX9 : String := "FoldDeeds$Text"
def TX9 : u_T := fun k => match k with
  | 0 => ("FoldDeeds$Text", "bytes", "[I", true)
  | 1 => ("FoldDeeds$Text", "size", "I", false)
  | 2 => ("FoldDeeds$Text", "at", "I", false)
  | _ => ("FoldDeeds$Text", "fault", "I", false)
def tyX9 : Nat → FieldType := fun k => match k with
  | 0 => .array .int
  | 1 => .int
  | 2 => .int
  | _ => .int
abbrev wsX90 : List Cond := u_ws RX9 TX9 4
theorem nmX9 : ∀ a, a < 4 → ∀ b, b < 4 → a ≠ b → (TX9 a).2.1 ≠ (TX9 b).2.1 := by decide +kernel
theorem tyX9_ok : ∀ k, k < 4 → parseFieldDescriptor (TX9 k).2.2.1 = some (tyX9 k) := by decide +kernel
abbrev cX9_init : ByteArray := prog_11_method_1_code
def yX9_init : MethodName := ⟨RX9, "<init>", "()V"⟩
abbrev cX9_append : ByteArray := prog_11_method_2_code
def yX9_append : MethodName := ⟨RX9, "append", "(I)V"⟩
abbrev cX9_startReading : ByteArray := prog_11_method_3_code
def yX9_startReading : MethodName := ⟨RX9, "startReading", "()V"⟩
abbrev cX9_fault : ByteArray := prog_11_method_4_code
def yX9_fault : MethodName := ⟨RX9, "fault", "()I"⟩
abbrev cX9_failed : ByteArray := prog_11_method_5_code
def yX9_failed : MethodName := ⟨RX9, "failed", "()Z"⟩
abbrev cX9_fail : ByteArray := prog_11_method_6_code
def yX9_fail : MethodName := ⟨RX9, "fail", "(II)V"⟩
abbrev cX9_failHere : ByteArray := prog_11_method_7_code
def yX9_failHere : MethodName := ⟨RX9, "failHere", "()V"⟩
abbrev cX9_where : ByteArray := prog_11_method_8_code
def yX9_where : MethodName := ⟨RX9, "where", "()I"⟩
abbrev cX9_ended : ByteArray := prog_11_method_9_code
def yX9_ended : MethodName := ⟨RX9, "ended", "()Z"⟩
abbrev cX9_atDigit : ByteArray := prog_11_method_10_code
def yX9_atDigit : MethodName := ⟨RX9, "atDigit", "()Z"⟩
abbrev cX9_takeSign : ByteArray := prog_11_method_11_code
def yX9_takeSign : MethodName := ⟨RX9, "takeSign", "(C)Z"⟩
abbrev cX9_needSign : ByteArray := prog_11_method_12_code
def yX9_needSign : MethodName := ⟨RX9, "needSign", "(C)V"⟩
abbrev cX9_takeComparison : ByteArray := prog_11_method_13_code
def yX9_takeComparison : MethodName := ⟨RX9, "takeComparison", "()I"⟩
abbrev cX9_takeNumber : ByteArray := prog_11_method_14_code
def yX9_takeNumber : MethodName := ⟨RX9, "takeNumber", "(II)I"⟩
abbrev cX9_takeWord : ByteArray := prog_11_method_15_code
def yX9_takeWord : MethodName := ⟨RX9, "takeWord", "(Ljava/lang/String;)I"⟩
abbrev cX9_takesWord : ByteArray := prog_11_method_16_code
def yX9_takesWord : MethodName := ⟨RX9, "takesWord", "(Ljava/lang/String;)Z"⟩
abbrev cX9_numberIn : ByteArray := prog_11_method_17_code
def yX9_numberIn : MethodName := ⟨RX9, "numberIn", "(Ljava/lang/String;I)I"⟩
abbrev cX9_isDigit : ByteArray := prog_11_method_18_code
def yX9_isDigit : MethodName := ⟨RX9, "isDigit", "(I)Z"⟩
abbrev cX9_passBlanks : ByteArray := prog_11_method_19_code
def yX9_passBlanks : MethodName := ⟨RX9, "passBlanks", "()V"⟩
def RX10 : String := "FoldDeeds$Trial"
def TX10 : u_T := fun k => match k with
  | 0 => ("FoldDeeds$Trial", "cloth", "LFoldDeeds$Cloth;", true)
  | 1 => ("FoldDeeds$Trial", "x", "J", false)
  | 2 => ("FoldDeeds$Trial", "foldsMade", "I", false)
  | _ => ("FoldDeeds$Trial", "coinsPaid", "I", false)
def tyX10 : Nat → FieldType := fun k => match k with
  | 0 => .object "FoldDeeds$Cloth"
  | 1 => .long
  | 2 => .int
  | _ => .int
abbrev wsX100 : List Cond := u_ws RX10 TX10 4
theorem nmX10 : ∀ a, a < 4 → ∀ b, b < 4 → a ≠ b → (TX10 a).2.1 ≠ (TX10 b).2.1 := by decide +kernel
theorem tyX10_ok : ∀ k, k < 4 → parseFieldDescriptor (TX10 k).2.2.1 = some (tyX10 k) := by decide +kernel
abbrev cX10_init : ByteArray := prog_12_method_1_code
def yX10_init : MethodName := ⟨RX10, "<init>", "()V"⟩
abbrev cX10_begin : ByteArray := prog_12_method_2_code
def yX10_begin : MethodName := ⟨RX10, "begin", "(I)V"⟩
abbrev cX10_run : ByteArray := prog_12_method_3_code
def yX10_run : MethodName := ⟨RX10, "run", "(LFoldDeeds$Market;LFoldDeeds$Rule;LFoldDeeds$Cloth;I)V"⟩
abbrev cX10_tryFold : ByteArray := prog_12_method_4_code
def yX10_tryFold : MethodName := ⟨RX10, "tryFold", "(LFoldDeeds$Market;LFoldDeeds$Rule;II)V"⟩
abbrev cX10_drawBelow : ByteArray := prog_12_method_5_code
def yX10_drawBelow : MethodName := ⟨RX10, "drawBelow", "(I)I"⟩
def RX11 : String := "FoldDeeds"
def TX11 : u_T := fun k => match k with
  | 0 => ("FoldDeeds", "tape", "LFoldDeeds$Text;", true)
  | 1 => ("FoldDeeds", "clothReader", "LFoldDeeds$ClothReader;", true)
  | 2 => ("FoldDeeds", "ruleReader", "LFoldDeeds$RuleReader;", true)
  | 3 => ("FoldDeeds", "rules", "[LFoldDeeds$Rule;", true)
  | 4 => ("FoldDeeds", "ruleCount", "I", false)
  | 5 => ("FoldDeeds", "sheet", "LFoldDeeds$Sheet;", true)
  | 6 => ("FoldDeeds", "images", "[LFoldDeeds$Sheet;", true)
  | 7 => ("FoldDeeds", "past", "LFoldDeeds$Past;", true)
  | 8 => ("FoldDeeds", "market", "LFoldDeeds$Market;", true)
  | 9 => ("FoldDeeds", "search", "LFoldDeeds$FoldSearch;", true)
  | 10 => ("FoldDeeds", "book", "LFoldDeeds$StackBook;", true)
  | 11 => ("FoldDeeds", "trial", "LFoldDeeds$Trial;", true)
  | 12 => ("FoldDeeds", "so", "[Z", true)
  | _ => ("FoldDeeds", "costs", "[I", true)
def tyX11 : Nat → FieldType := fun k => match k with
  | 0 => .object "FoldDeeds$Text"
  | 1 => .object "FoldDeeds$ClothReader"
  | 2 => .object "FoldDeeds$RuleReader"
  | 3 => .array (.object "FoldDeeds$Rule")
  | 4 => .int
  | 5 => .object "FoldDeeds$Sheet"
  | 6 => .array (.object "FoldDeeds$Sheet")
  | 7 => .object "FoldDeeds$Past"
  | 8 => .object "FoldDeeds$Market"
  | 9 => .object "FoldDeeds$FoldSearch"
  | 10 => .object "FoldDeeds$StackBook"
  | 11 => .object "FoldDeeds$Trial"
  | 12 => .array .boolean
  | _ => .array .int
abbrev wsX110 : List Cond := u_ws RX11 TX11 14
theorem nmX11 : ∀ a, a < 14 → ∀ b, b < 14 → a ≠ b → (TX11 a).2.1 ≠ (TX11 b).2.1 := by decide +kernel
theorem tyX11_ok : ∀ k, k < 14 → parseFieldDescriptor (TX11 k).2.2.1 = some (tyX11 k) := by decide +kernel
abbrev cX11_init : ByteArray := prog_1_method_1_code
def yX11_init : MethodName := ⟨RX11, "<init>", "()V"⟩
abbrev cX11_feed : ByteArray := prog_1_method_2_code
def yX11_feed : MethodName := ⟨RX11, "feed", "(IIIII)I"⟩
abbrev cX11_end : ByteArray := prog_1_method_3_code
def yX11_end : MethodName := ⟨RX11, "end", "(I)I"⟩
abbrev cX11_cloth : ByteArray := prog_1_method_4_code
def yX11_cloth : MethodName := ⟨RX11, "cloth", "()I"⟩
abbrev cX11_rule : ByteArray := prog_1_method_5_code
def yX11_rule : MethodName := ⟨RX11, "rule", "()I"⟩
abbrev cX11_force : ByteArray := prog_1_method_6_code
def yX11_force : MethodName := ⟨RX11, "force", "(I)I"⟩
abbrev cX11_cell : ByteArray := prog_1_method_7_code
def yX11_cell : MethodName := ⟨RX11, "cell", "(II)I"⟩
abbrev cX11_joint : ByteArray := prog_1_method_8_code
def yX11_joint : MethodName := ⟨RX11, "joint", "(II)I"⟩
abbrev cX11_person : ByteArray := prog_1_method_9_code
def yX11_person : MethodName := ⟨RX11, "person", "(II)I"⟩
abbrev cX11_thick : ByteArray := prog_1_method_10_code
def yX11_thick : MethodName := ⟨RX11, "thick", "(I)I"⟩
abbrev cX11_fold : ByteArray := prog_1_method_11_code
def yX11_fold : MethodName := ⟨RX11, "fold", "(IIII)I"⟩
abbrev cX11_open : ByteArray := prog_1_method_12_code
def yX11_open : MethodName := ⟨RX11, "open", "()I"⟩
abbrev cX11_iron : ByteArray := prog_1_method_13_code
def yX11_iron : MethodName := ⟨RX11, "iron", "(I)I"⟩
abbrev cX11_give : ByteArray := prog_1_method_14_code
def yX11_give : MethodName := ⟨RX11, "give", "(II)I"⟩
abbrev cX11_undo : ByteArray := prog_1_method_15_code
def yX11_undo : MethodName := ⟨RX11, "undo", "()I"⟩
abbrev cX11_cost : ByteArray := prog_1_method_16_code
def yX11_cost : MethodName := ⟨RX11, "cost", "(IIII)I"⟩
abbrev cX11_mark : ByteArray := prog_1_method_17_code
def yX11_mark : MethodName := ⟨RX11, "mark", "(II)I"⟩
abbrev cX11_folds : ByteArray := prog_1_method_18_code
def yX11_folds : MethodName := ⟨RX11, "folds", "(I)I"⟩
abbrev cX11_stacks : ByteArray := prog_1_method_19_code
def yX11_stacks : MethodName := ⟨RX11, "stacks", "(I)I"⟩
abbrev cX11_peek : ByteArray := prog_1_method_20_code
def yX11_peek : MethodName := ⟨RX11, "peek", "(I)I"⟩
abbrev cX11_richest : ByteArray := prog_1_method_21_code
def yX11_richest : MethodName := ⟨RX11, "richest", "(I)I"⟩
abbrev cX11_own : ByteArray := prog_1_method_22_code
def yX11_own : MethodName := ⟨RX11, "own", "(III)I"⟩
abbrev cX11_last : ByteArray := prog_1_method_23_code
def yX11_last : MethodName := ⟨RX11, "last", "(I)I"⟩
abbrev cX11_dearest : ByteArray := prog_1_method_24_code
def yX11_dearest : MethodName := ⟨RX11, "dearest", "(II)I"⟩
abbrev cX11_log : ByteArray := prog_1_method_25_code
def yX11_log : MethodName := ⟨RX11, "log", "(IIII)I"⟩
abbrev cX11_ruled : ByteArray := prog_1_method_26_code
def yX11_ruled : MethodName := ⟨RX11, "ruled", "(I)I"⟩
abbrev cX11_look : ByteArray := prog_1_method_27_code
def yX11_look : MethodName := ⟨RX11, "look", "(I)I"⟩
abbrev cX11_seed : ByteArray := prog_1_method_28_code
def yX11_seed : MethodName := ⟨RX11, "seed", "(I)I"⟩
abbrev cX11_days : ByteArray := prog_1_method_29_code
def yX11_days : MethodName := ⟨RX11, "days", "(III)I"⟩
abbrev cX11_count : ByteArray := prog_1_method_30_code
def yX11_count : MethodName := ⟨RX11, "count", "(I)I"⟩
abbrev cX11_image : ByteArray := prog_1_method_31_code
def yX11_image : MethodName := ⟨RX11, "image", "(I)I"⟩
abbrev cX11_back : ByteArray := prog_1_method_32_code
def yX11_back : MethodName := ⟨RX11, "back", "(I)I"⟩
abbrev cX11_ruleInForce : ByteArray := prog_1_method_33_code
def yX11_ruleInForce : MethodName := ⟨RX11, "ruleInForce", "()LFoldDeeds$Rule;"⟩
abbrev cX11_ruleOf : ByteArray := prog_1_method_34_code
def yX11_ruleOf : MethodName := ⟨RX11, "ruleOf", "(I)LFoldDeeds$Rule;"⟩
abbrev cX11_findSo : ByteArray := prog_1_method_35_code
def yX11_findSo : MethodName := ⟨RX11, "findSo", "()I"⟩
abbrev cX11_explainsLogs : ByteArray := prog_1_method_36_code
def yX11_explainsLogs : MethodName := ⟨RX11, "explainsLogs", "(LFoldDeeds$Rule;)Z"⟩
abbrev cX11_alikeAt : ByteArray := prog_1_method_37_code
def yX11_alikeAt : MethodName := ⟨RX11, "alikeAt", "(I)I"⟩
abbrev cX11_alikeUpTo : ByteArray := prog_1_method_38_code
def yX11_alikeUpTo : MethodName := ⟨RX11, "alikeUpTo", "(I)I"⟩
abbrev cX11_winningPlace : ByteArray := prog_1_method_39_code
def yX11_winningPlace : MethodName := ⟨RX11, "winningPlace", "(I)I"⟩
abbrev cX11_widthAfter : ByteArray := prog_1_method_40_code
def yX11_widthAfter : MethodName := ⟨RX11, "widthAfter", "(II)I"⟩
def RX12 : String := "FoldDeedsModel"
def TX12 : u_T := fun k => match k with
  | 0 => ("FoldDeedsModel", "tape", "[B", true)
  | 1 => ("FoldDeedsModel", "taped", "I", false)
  | 2 => ("FoldDeedsModel", "rules", "I", false)
  | 3 => ("FoldDeedsModel", "sign", "[I", true)
  | 4 => ("FoldDeedsModel", "length", "[I", true)
  | 5 => ("FoldDeedsModel", "clause", "[I", true)
  | 6 => ("FoldDeedsModel", "clauses", "[I", true)
  | 7 => ("FoldDeedsModel", "read", "[I", true)
  | 8 => ("FoldDeedsModel", "next", "I", false)
  | 9 => ("FoldDeedsModel", "wrong", "I", false)
  | 10 => ("FoldDeedsModel", "number", "I", false)
  | 11 => ("FoldDeedsModel", "text", "I", false)
  | 12 => ("FoldDeedsModel", "made", "I", false)
  | 13 => ("FoldDeedsModel", "deep", "I", false)
  | 14 => ("FoldDeedsModel", "lines", "I", false)
  | 15 => ("FoldDeedsModel", "open", "[I", true)
  | 16 => ("FoldDeedsModel", "opened", "I", false)
  | 17 => ("FoldDeedsModel", "stack", "[J", true)
  | 18 => ("FoldDeedsModel", "top", "I", false)
  | 19 => ("FoldDeedsModel", "word", "[J", true)
  | 20 => ("FoldDeedsModel", "said", "[I", true)
  | 21 => ("FoldDeedsModel", "force", "I", false)
  | 22 => ("FoldDeedsModel", "x", "I", false)
  | 23 => ("FoldDeedsModel", "thickThen", "[I", true)
  | 24 => ("FoldDeedsModel", "priceOf", "[I", true)
  | 25 => ("FoldDeedsModel", "wasSaid", "[I", true)
  | 26 => ("FoldDeedsModel", "undone", "I", false)
  | 27 => ("FoldDeedsModel", "kept", "[I", true)
  | 28 => ("FoldDeedsModel", "rowFold", "[I", true)
  | 29 => ("FoldDeedsModel", "rowState", "[I", true)
  | 30 => ("FoldDeedsModel", "fewest", "I", false)
  | 31 => ("FoldDeedsModel", "rowCell", "[I", true)
  | 32 => ("FoldDeedsModel", "layerOf", "[I", true)
  | 33 => ("FoldDeedsModel", "stackMany", "I", false)
  | 34 => ("FoldDeedsModel", "stackFirst", "[I", true)
  | 35 => ("FoldDeedsModel", "stackOf", "[I", true)
  | 36 => ("FoldDeedsModel", "stackBy", "[I", true)
  | 37 => ("FoldDeedsModel", "winsBy", "[I", true)
  | 38 => ("FoldDeedsModel", "isFit", "[Z", true)
  | 39 => ("FoldDeedsModel", "costThen", "[I", true)
  | 40 => ("FoldDeedsModel", "drawX", "J", false)
  | 41 => ("FoldDeedsModel", "paidDrawn", "I", false)
  | 42 => ("FoldDeedsModel", "images", "[I", true)
  | 43 => ("FoldDeedsModel", "imageForce", "[I", true)
  | 44 => ("FoldDeedsModel", "imageX", "[I", true)
  | _ => ("FoldDeedsModel", "isMade", "[Z", true)
def tyX12 : Nat → FieldType := fun k => match k with
  | 0 => .array .byte
  | 1 => .int
  | 2 => .int
  | 3 => .array .int
  | 4 => .array .int
  | 5 => .array .int
  | 6 => .array .int
  | 7 => .array .int
  | 8 => .int
  | 9 => .int
  | 10 => .int
  | 11 => .int
  | 12 => .int
  | 13 => .int
  | 14 => .int
  | 15 => .array .int
  | 16 => .int
  | 17 => .array .long
  | 18 => .int
  | 19 => .array .long
  | 20 => .array .int
  | 21 => .int
  | 22 => .int
  | 23 => .array .int
  | 24 => .array .int
  | 25 => .array .int
  | 26 => .int
  | 27 => .array .int
  | 28 => .array .int
  | 29 => .array .int
  | 30 => .int
  | 31 => .array .int
  | 32 => .array .int
  | 33 => .int
  | 34 => .array .int
  | 35 => .array .int
  | 36 => .array .int
  | 37 => .array .int
  | 38 => .array .boolean
  | 39 => .array .int
  | 40 => .long
  | 41 => .int
  | 42 => .array .int
  | 43 => .array .int
  | 44 => .array .int
  | _ => .array .boolean
abbrev wsX120 : List Cond := u_ws RX12 TX12 46
theorem nmX12 : ∀ a, a < 46 → ∀ b, b < 46 → a ≠ b → (TX12 a).2.1 ≠ (TX12 b).2.1 := by decide +kernel
theorem tyX12_ok : ∀ k, k < 46 → parseFieldDescriptor (TX12 k).2.2.1 = some (tyX12 k) := by decide +kernel
abbrev cX12_init : ByteArray := prog_14_method_1_code
def yX12_init : MethodName := ⟨RX12, "<init>", "()V"⟩
abbrev cX12_in : ByteArray := prog_14_method_2_code
def yX12_in : MethodName := ⟨RX12, "in", "(JJJ)Z"⟩
abbrev cX12_isOf : ByteArray := prog_14_method_3_code
def yX12_isOf : MethodName := ⟨RX12, "isOf", "(II)Z"⟩
abbrev cX12_four : ByteArray := prog_14_method_4_code
def yX12_four : MethodName := ⟨RX12, "four", "(I)V"⟩
abbrev cX12_feed : ByteArray := prog_14_method_5_code
def yX12_feed : MethodName := ⟨RX12, "feed", "(IIIII)I"⟩
abbrev cX12_end : ByteArray := prog_14_method_6_code
def yX12_end : MethodName := ⟨RX12, "end", "(I)I"⟩
abbrev cX12_fails : ByteArray := prog_14_method_7_code
def yX12_fails : MethodName := ⟨RX12, "fails", "(II)Z"⟩
abbrev cX12_see : ByteArray := prog_14_method_8_code
def yX12_see : MethodName := ⟨RX12, "see", "()I"⟩
abbrev cX12_isDigit : ByteArray := prog_14_method_9_code
def yX12_isDigit : MethodName := ⟨RX12, "isDigit", "(I)Z"⟩
abbrev cX12_isLetter : ByteArray := prog_14_method_10_code
def yX12_isLetter : MethodName := ⟨RX12, "isLetter", "(I)Z"⟩
abbrev cX12_isWord : ByteArray := prog_14_method_11_code
def yX12_isWord : MethodName := ⟨RX12, "isWord", "(J)Z"⟩
abbrev cX12_passWord : ByteArray := prog_14_method_12_code
def yX12_passWord : MethodName := ⟨RX12, "passWord", "()V"⟩
abbrev cX12_takesWord : ByteArray := prog_14_method_13_code
def yX12_takesWord : MethodName := ⟨RX12, "takesWord", "(J)Z"⟩
abbrev cX12_numberHere : ByteArray := prog_14_method_14_code
def yX12_numberHere : MethodName := ⟨RX12, "numberHere", "(II)Z"⟩
abbrev cX12_wordHere : ByteArray := prog_14_method_15_code
def yX12_wordHere : MethodName := ⟨RX12, "wordHere", "()I"⟩
abbrev cX12_puts : ByteArray := prog_14_method_16_code
def yX12_puts : MethodName := ⟨RX12, "puts", "(II)V"⟩
abbrev cX12_makes : ByteArray := prog_14_method_17_code
def yX12_makes : MethodName := ⟨RX12, "makes", "(I)Z"⟩
abbrev cX12_opens : ByteArray := prog_14_method_18_code
def yX12_opens : MethodName := ⟨RX12, "opens", "(I)Z"⟩
abbrev cX12_strength : ByteArray := prog_14_method_19_code
def yX12_strength : MethodName := ⟨RX12, "strength", "(I)I"⟩
abbrev cX12_settles : ByteArray := prog_14_method_20_code
def yX12_settles : MethodName := ⟨RX12, "settles", "(I)V"⟩
abbrev cX12_value : ByteArray := prog_14_method_21_code
def yX12_value : MethodName := ⟨RX12, "value", "()Z"⟩
abbrev cX12_term : ByteArray := prog_14_method_22_code
def yX12_term : MethodName := ⟨RX12, "term", "()Z"⟩
abbrev cX12_sum : ByteArray := prog_14_method_23_code
def yX12_sum : MethodName := ⟨RX12, "sum", "()Z"⟩
abbrev cX12_compare : ByteArray := prog_14_method_24_code
def yX12_compare : MethodName := ⟨RX12, "compare", "()Z"⟩
abbrev cX12_fact : ByteArray := prog_14_method_25_code
def yX12_fact : MethodName := ⟨RX12, "fact", "()Z"⟩
abbrev cX12_isInside : ByteArray := prog_14_method_26_code
def yX12_isInside : MethodName := ⟨RX12, "isInside", "()Z"⟩
abbrev cX12_closes : ByteArray := prog_14_method_27_code
def yX12_closes : MethodName := ⟨RX12, "closes", "()V"⟩
abbrev cX12_tested : ByteArray := prog_14_method_28_code
def yX12_tested : MethodName := ⟨RX12, "tested", "()Z"⟩
abbrev cX12_isPriceHere : ByteArray := prog_14_method_29_code
def yX12_isPriceHere : MethodName := ⟨RX12, "isPriceHere", "()Z"⟩
abbrev cX12_cellHere : ByteArray := prog_14_method_30_code
def yX12_cellHere : MethodName := ⟨RX12, "cellHere", "(III)Z"⟩
abbrev cX12_isClothHere : ByteArray := prog_14_method_31_code
def yX12_isClothHere : MethodName := ⟨RX12, "isClothHere", "(I)Z"⟩
abbrev cX12_isPersonHere : ByteArray := prog_14_method_32_code
def yX12_isPersonHere : MethodName := ⟨RX12, "isPersonHere", "(I)Z"⟩
abbrev cX12_isOneOfRow : ByteArray := prog_14_method_33_code
def yX12_isOneOfRow : MethodName := ⟨RX12, "isOneOfRow", "(IIII)Z"⟩
abbrev cX12_clothLineHere : ByteArray := prog_14_method_34_code
def yX12_clothLineHere : MethodName := ⟨RX12, "clothLineHere", "(I)Z"⟩
abbrev cX12_isClothWord : ByteArray := prog_14_method_35_code
def yX12_isClothWord : MethodName := ⟨RX12, "isClothWord", "()Z"⟩
abbrev cX12_clauseHere : ByteArray := prog_14_method_36_code
def yX12_clauseHere : MethodName := ⟨RX12, "clauseHere", "()Z"⟩
abbrev cX12_readsAll : ByteArray := prog_14_method_37_code
def yX12_readsAll : MethodName := ⟨RX12, "readsAll", "()Z"⟩
abbrev cX12_rule : ByteArray := prog_14_method_38_code
def yX12_rule : MethodName := ⟨RX12, "rule", "()I"⟩
abbrev cX12_cloth : ByteArray := prog_14_method_39_code
def yX12_cloth : MethodName := ⟨RX12, "cloth", "()I"⟩
abbrev cX12_isRule : ByteArray := prog_14_method_40_code
def yX12_isRule : MethodName := ⟨RX12, "isRule", "(I)Z"⟩
abbrev cX12_push : ByteArray := prog_14_method_41_code
def yX12_push : MethodName := ⟨RX12, "push", "(J)V"⟩
abbrev cX12_pop : ByteArray := prog_14_method_42_code
def yX12_pop : MethodName := ⟨RX12, "pop", "()J"⟩
abbrev cX12_one : ByteArray := prog_14_method_43_code
def yX12_one : MethodName := ⟨RX12, "one", "(IJJ)J"⟩
abbrev cX12_reckons : ByteArray := prog_14_method_44_code
def yX12_reckons : MethodName := ⟨RX12, "reckons", "(III)J"⟩
abbrev cX12_isCloth : ByteArray := prog_14_method_45_code
def yX12_isCloth : MethodName := ⟨RX12, "isCloth", "()Z"⟩
abbrev cX12_isCell : ByteArray := prog_14_method_46_code
def yX12_isCell : MethodName := ⟨RX12, "isCell", "(I)Z"⟩
abbrev cX12_isJoint : ByteArray := prog_14_method_47_code
def yX12_isJoint : MethodName := ⟨RX12, "isJoint", "(I)Z"⟩
abbrev cX12_isPerson : ByteArray := prog_14_method_48_code
def yX12_isPerson : MethodName := ⟨RX12, "isPerson", "(I)Z"⟩
abbrev cX12_cellOf : ByteArray := prog_14_method_49_code
def yX12_cellOf : MethodName := ⟨RX12, "cellOf", "(II)I"⟩
abbrev cX12_thickAt : ByteArray := prog_14_method_50_code
def yX12_thickAt : MethodName := ⟨RX12, "thickAt", "(I)I"⟩
abbrev cX12_liesOpen : ByteArray := prog_14_method_51_code
def yX12_liesOpen : MethodName := ⟨RX12, "liesOpen", "()V"⟩
abbrev cX12_begins : ByteArray := prog_14_method_52_code
def yX12_begins : MethodName := ⟨RX12, "begins", "()V"⟩
abbrev cX12_cellsOf : ByteArray := prog_14_method_53_code
def yX12_cellsOf : MethodName := ⟨RX12, "cellsOf", "(I)I"⟩
abbrev cX12_force : ByteArray := prog_14_method_54_code
def yX12_force : MethodName := ⟨RX12, "force", "(I)I"⟩
abbrev cX12_cell : ByteArray := prog_14_method_55_code
def yX12_cell : MethodName := ⟨RX12, "cell", "(II)I"⟩
abbrev cX12_joint : ByteArray := prog_14_method_56_code
def yX12_joint : MethodName := ⟨RX12, "joint", "(II)I"⟩
abbrev cX12_person : ByteArray := prog_14_method_57_code
def yX12_person : MethodName := ⟨RX12, "person", "(II)I"⟩
abbrev cX12_thick : ByteArray := prog_14_method_58_code
def yX12_thick : MethodName := ⟨RX12, "thick", "(I)I"⟩
abbrev cX12_isLine : ByteArray := prog_14_method_59_code
def yX12_isLine : MethodName := ⟨RX12, "isLine", "(I)Z"⟩
abbrev cX12_isMoved : ByteArray := prog_14_method_60_code
def yX12_isMoved : MethodName := ⟨RX12, "isMoved", "(III)Z"⟩
abbrev cX12_kindBy : ByteArray := prog_14_method_61_code
def yX12_kindBy : MethodName := ⟨RX12, "kindBy", "(III)I"⟩
abbrev cX12_canCrease : ByteArray := prog_14_method_62_code
def yX12_canCrease : MethodName := ⟨RX12, "canCrease", "(II)Z"⟩
abbrev cX12_turnsOver : ByteArray := prog_14_method_63_code
def yX12_turnsOver : MethodName := ⟨RX12, "turnsOver", "(III)V"⟩
abbrev cX12_summedBy : ByteArray := prog_14_method_64_code
def yX12_summedBy : MethodName := ⟨RX12, "summedBy", "(I)J"⟩
abbrev cX12_words : ByteArray := prog_14_method_65_code
def yX12_words : MethodName := ⟨RX12, "words", "(IIII)V"⟩
abbrev cX12_prices : ByteArray := prog_14_method_66_code
def yX12_prices : MethodName := ⟨RX12, "prices", "(IIII)I"⟩
abbrev cX12_buys : ByteArray := prog_14_method_67_code
def yX12_buys : MethodName := ⟨RX12, "buys", "(IIII)V"⟩
abbrev cX12_placeOf : ByteArray := prog_14_method_68_code
def yX12_placeOf : MethodName := ⟨RX12, "placeOf", "(I)I"⟩
abbrev cX12_sideOf : ByteArray := prog_14_method_69_code
def yX12_sideOf : MethodName := ⟨RX12, "sideOf", "(I)I"⟩
abbrev cX12_wayOf : ByteArray := prog_14_method_70_code
def yX12_wayOf : MethodName := ⟨RX12, "wayOf", "(I)I"⟩
abbrev cX12_isFolded : ByteArray := prog_14_method_71_code
def yX12_isFolded : MethodName := ⟨RX12, "isFolded", "(II)Z"⟩
abbrev cX12_keepsAct : ByteArray := prog_14_method_72_code
def yX12_keepsAct : MethodName := ⟨RX12, "keepsAct", "()V"⟩
abbrev cX12_undo : ByteArray := prog_14_method_73_code
def yX12_undo : MethodName := ⟨RX12, "undo", "()I"⟩
abbrev cX12_isFold : ByteArray := prog_14_method_74_code
def yX12_isFold : MethodName := ⟨RX12, "isFold", "(IIII)Z"⟩
abbrev cX12_fold : ByteArray := prog_14_method_75_code
def yX12_fold : MethodName := ⟨RX12, "fold", "(IIII)I"⟩
abbrev cX12_open : ByteArray := prog_14_method_76_code
def yX12_open : MethodName := ⟨RX12, "open", "()I"⟩
abbrev cX12_iron : ByteArray := prog_14_method_77_code
def yX12_iron : MethodName := ⟨RX12, "iron", "(I)I"⟩
abbrev cX12_give : ByteArray := prog_14_method_78_code
def yX12_give : MethodName := ⟨RX12, "give", "(II)I"⟩
abbrev cX12_cost : ByteArray := prog_14_method_79_code
def yX12_cost : MethodName := ⟨RX12, "cost", "(IIII)I"⟩
abbrev cX12_mark : ByteArray := prog_14_method_80_code
def yX12_mark : MethodName := ⟨RX12, "mark", "(II)I"⟩
abbrev cX12_keeps : ByteArray := prog_14_method_81_code
def yX12_keeps : MethodName := ⟨RX12, "keeps", "()V"⟩
abbrev cX12_laysBack : ByteArray := prog_14_method_82_code
def yX12_laysBack : MethodName := ⟨RX12, "laysBack", "()V"⟩
abbrev cX12_keepsPlace : ByteArray := prog_14_method_83_code
def yX12_keepsPlace : MethodName := ⟨RX12, "keepsPlace", "(I)V"⟩
abbrev cX12_laysPlace : ByteArray := prog_14_method_84_code
def yX12_laysPlace : MethodName := ⟨RX12, "laysPlace", "(I)V"⟩
abbrev cX12_areMarked : ByteArray := prog_14_method_85_code
def yX12_areMarked : MethodName := ⟨RX12, "areMarked", "()Z"⟩
abbrev cX12_foldsAsMarked : ByteArray := prog_14_method_86_code
def yX12_foldsAsMarked : MethodName := ⟨RX12, "foldsAsMarked", "(I)Z"⟩
abbrev cX12_isGoal : ByteArray := prog_14_method_87_code
def yX12_isGoal : MethodName := ⟨RX12, "isGoal", "(II)Z"⟩
abbrev cX12_findsRow : ByteArray := prog_14_method_88_code
def yX12_findsRow : MethodName := ⟨RX12, "findsRow", "(III)Z"⟩
abbrev cX12_findsFewest : ByteArray := prog_14_method_89_code
def yX12_findsFewest : MethodName := ⟨RX12, "findsFewest", "(III)V"⟩
abbrev cX12_answerOfRow : ByteArray := prog_14_method_90_code
def yX12_answerOfRow : MethodName := ⟨RX12, "answerOfRow", "(I)I"⟩
abbrev cX12_folds : ByteArray := prog_14_method_91_code
def yX12_folds : MethodName := ⟨RX12, "folds", "(I)I"⟩
abbrev cX12_own : ByteArray := prog_14_method_92_code
def yX12_own : MethodName := ⟨RX12, "own", "(III)I"⟩
abbrev cX12_isBetween : ByteArray := prog_14_method_93_code
def yX12_isBetween : MethodName := ⟨RX12, "isBetween", "(III)Z"⟩
abbrev cX12_isUncrossed : ByteArray := prog_14_method_94_code
def yX12_isUncrossed : MethodName := ⟨RX12, "isUncrossed", "()Z"⟩
abbrev cX12_hills : ByteArray := prog_14_method_95_code
def yX12_hills : MethodName := ⟨RX12, "hills", "()I"⟩
abbrev cX12_isAsMarked : ByteArray := prog_14_method_96_code
def yX12_isAsMarked : MethodName := ⟨RX12, "isAsMarked", "(I)Z"⟩
abbrev cX12_keepsStack : ByteArray := prog_14_method_97_code
def yX12_keepsStack : MethodName := ⟨RX12, "keepsStack", "()V"⟩
abbrev cX12_isUsed : ByteArray := prog_14_method_98_code
def yX12_isUsed : MethodName := ⟨RX12, "isUsed", "(II)Z"⟩
abbrev cX12_findsStacks : ByteArray := prog_14_method_99_code
def yX12_findsStacks : MethodName := ⟨RX12, "findsStacks", "()V"⟩
abbrev cX12_stacks : ByteArray := prog_14_method_100_code
def yX12_stacks : MethodName := ⟨RX12, "stacks", "(I)I"⟩
abbrev cX12_peek : ByteArray := prog_14_method_101_code
def yX12_peek : MethodName := ⟨RX12, "peek", "(I)I"⟩
abbrev cX12_richest : ByteArray := prog_14_method_102_code
def yX12_richest : MethodName := ⟨RX12, "richest", "(I)I"⟩
abbrev cX12_last : ByteArray := prog_14_method_103_code
def yX12_last : MethodName := ⟨RX12, "last", "(I)I"⟩
abbrev cX12_dearest : ByteArray := prog_14_method_104_code
def yX12_dearest : MethodName := ⟨RX12, "dearest", "(II)I"⟩
abbrev cX12_log : ByteArray := prog_14_method_105_code
def yX12_log : MethodName := ⟨RX12, "log", "(IIII)I"⟩
abbrev cX12_costAt : ByteArray := prog_14_method_106_code
def yX12_costAt : MethodName := ⟨RX12, "costAt", "(III)I"⟩
abbrev cX12_fillsFits : ByteArray := prog_14_method_107_code
def yX12_fillsFits : MethodName := ⟨RX12, "fillsFits", "()V"⟩
abbrev cX12_ruled : ByteArray := prog_14_method_108_code
def yX12_ruled : MethodName := ⟨RX12, "ruled", "(I)I"⟩
abbrev cX12_alikeAt : ByteArray := prog_14_method_109_code
def yX12_alikeAt : MethodName := ⟨RX12, "alikeAt", "(I)I"⟩
abbrev cX12_look : ByteArray := prog_14_method_110_code
def yX12_look : MethodName := ⟨RX12, "look", "(I)I"⟩
abbrev cX12_seed : ByteArray := prog_14_method_111_code
def yX12_seed : MethodName := ⟨RX12, "seed", "(I)I"⟩
abbrev cX12_draw : ByteArray := prog_14_method_112_code
def yX12_draw : MethodName := ⟨RX12, "draw", "(I)I"⟩
abbrev cX12_foldsDrawn : ByteArray := prog_14_method_113_code
def yX12_foldsDrawn : MethodName := ⟨RX12, "foldsDrawn", "()Z"⟩
abbrev cX12_days : ByteArray := prog_14_method_114_code
def yX12_days : MethodName := ⟨RX12, "days", "(III)I"⟩
abbrev cX12_count : ByteArray := prog_14_method_115_code
def yX12_count : MethodName := ⟨RX12, "count", "(I)I"⟩
abbrev cX12_image : ByteArray := prog_14_method_116_code
def yX12_image : MethodName := ⟨RX12, "image", "(I)I"⟩
abbrev cX12_back : ByteArray := prog_14_method_117_code
def yX12_back : MethodName := ⟨RX12, "back", "(I)I"⟩
def RJ6 : String := "java/lang/Integer"
def TJ6 : u_T := fun k => match k with
  | _ => ("", "", "", false)
def tyJ6 : Nat → FieldType := fun k => match k with
  | _ => .int
abbrev wsJ60 : List Cond := u_ws RJ6 TJ6 0
theorem nmJ6 : ∀ a, a < 0 → ∀ b, b < 0 → a ≠ b → (TJ6 a).2.1 ≠ (TJ6 b).2.1 := by decide +kernel
theorem tyJ6_ok : ∀ k, k < 0 → parseFieldDescriptor (TJ6 k).2.2.1 = some (tyJ6 k) := by decide +kernel
abbrev cJ6_bitCount_0f7a4 : ByteArray := prog_15_method_49_code
def yJ6_bitCount_0f7a4 : MethodName := ⟨RJ6, "bitCount", "(I)I"⟩
def RJ9 : String := "java/lang/Math"
def TJ9 : u_T := fun k => match k with
  | _ => ("", "", "", false)
def tyJ9 : Nat → FieldType := fun k => match k with
  | _ => .int
abbrev wsJ90 : List Cond := u_ws RJ9 TJ9 0
theorem nmJ9 : ∀ a, a < 0 → ∀ b, b < 0 → a ≠ b → (TJ9 a).2.1 ≠ (TJ9 b).2.1 := by decide +kernel
theorem tyJ9_ok : ∀ k, k < 0 → parseFieldDescriptor (TJ9 k).2.2.1 = some (tyJ9 k) := by decide +kernel
abbrev cJ9_max_7cf53 : ByteArray := prog_16_method_65_code
def yJ9_max_7cf53 : MethodName := ⟨RJ9, "max", "(II)I"⟩
abbrev cJ9_max_f86c9 : ByteArray := prog_16_method_66_code
def yJ9_max_f86c9 : MethodName := ⟨RJ9, "max", "(JJ)J"⟩
abbrev cJ9_min_7cf53 : ByteArray := prog_16_method_69_code
def yJ9_min_7cf53 : MethodName := ⟨RJ9, "min", "(II)I"⟩
abbrev cJ9_min_f86c9 : ByteArray := prog_16_method_70_code
def yJ9_min_f86c9 : MethodName := ⟨RJ9, "min", "(JJ)J"⟩
def RJ0 : String := "java/lang/String"
def TJ0 : u_T := fun k => match k with
  | _ => ("", "", "", false)
def tyJ0 : Nat → FieldType := fun k => match k with
  | _ => .int
abbrev wsJ00 : List Cond := u_ws RJ0 TJ0 0
theorem nmJ0 : ∀ a, a < 0 → ∀ b, b < 0 → a ≠ b → (TJ0 a).2.1 ≠ (TJ0 b).2.1 := by decide +kernel
theorem tyJ0_ok : ∀ k, k < 0 → parseFieldDescriptor (TJ0 k).2.2.1 = some (tyJ0 k) := by decide +kernel
abbrev cJ0_length_8abf5 : ByteArray := prog_17_method_54_code
def yJ0_length_8abf5 : MethodName := ⟨RJ0, "length", "()I"⟩
abbrev cJ0_charAt_5068e : ByteArray := prog_17_method_56_code
def yJ0_charAt_5068e : MethodName := ⟨RJ0, "charAt", "(I)C"⟩
abbrev cJ0_coder_7d493 : ByteArray := prog_17_method_152_code
def yJ0_coder_7d493 : MethodName := ⟨RJ0, "coder", "()B"⟩
abbrev cJ0_isLatin1_aae02 : ByteArray := prog_17_method_154_code
def yJ0_isLatin1_aae02 : MethodName := ⟨RJ0, "isLatin1", "()Z"⟩
abbrev cJ0_checkIndex_df160 : ByteArray := prog_17_method_155_code
def yJ0_checkIndex_df160 : MethodName := ⟨RJ0, "checkIndex", "(II)V"⟩
def RJ1 : String := "java/lang/StringLatin1"
def TJ1 : u_T := fun k => match k with
  | _ => ("", "", "", false)
def tyJ1 : Nat → FieldType := fun k => match k with
  | _ => .int
abbrev wsJ10 : List Cond := u_ws RJ1 TJ1 0
theorem nmJ1 : ∀ a, a < 0 → ∀ b, b < 0 → a ≠ b → (TJ1 a).2.1 ≠ (TJ1 b).2.1 := by decide +kernel
theorem tyJ1_ok : ∀ k, k < 0 → parseFieldDescriptor (TJ1 k).2.2.1 = some (tyJ1 k) := by decide +kernel
abbrev cJ1_charAt_3b067 : ByteArray := prog_18_method_2_code
def yJ1_charAt_3b067 : MethodName := ⟨RJ1, "charAt", "([BI)C"⟩
def RJ2 : String := "java/lang/StringUTF16"
def TJ2 : u_T := fun k => match k with
  | _ => ("", "", "", false)
def tyJ2 : Nat → FieldType := fun k => match k with
  | _ => .int
abbrev wsJ20 : List Cond := u_ws RJ2 TJ2 0
theorem nmJ2 : ∀ a, a < 0 → ∀ b, b < 0 → a ≠ b → (TJ2 a).2.1 ≠ (TJ2 b).2.1 := by decide +kernel
theorem tyJ2_ok : ∀ k, k < 0 → parseFieldDescriptor (TJ2 k).2.2.1 = some (tyJ2 k) := by decide +kernel
abbrev cJ2_getChar_3b067 : ByteArray := prog_19_method_5_code
def yJ2_getChar_3b067 : MethodName := ⟨RJ2, "getChar", "([BI)C"⟩
abbrev cJ2_length_9d52b : ByteArray := prog_19_method_6_code
def yJ2_length_9d52b : MethodName := ⟨RJ2, "length", "([B)I"⟩
abbrev cJ2_charAt_3b067 : ByteArray := prog_19_method_83_code
def yJ2_charAt_3b067 : MethodName := ⟨RJ2, "charAt", "([BI)C"⟩
abbrev cJ2_checkIndex_2214a : ByteArray := prog_19_method_91_code
def yJ2_checkIndex_2214a : MethodName := ⟨RJ2, "checkIndex", "(I[B)V"⟩
def RJ10 : String := "java/lang/System"
def TJ10 : u_T := fun k => match k with
  | _ => ("", "", "", false)
def tyJ10 : Nat → FieldType := fun k => match k with
  | _ => .int
abbrev wsJ100 : List Cond := u_ws RJ10 TJ10 0
theorem nmJ10 : ∀ a, a < 0 → ∀ b, b < 0 → a ≠ b → (TJ10 a).2.1 ≠ (TJ10 b).2.1 := by decide +kernel
theorem tyJ10_ok : ∀ k, k < 0 → parseFieldDescriptor (TJ10 k).2.2.1 = some (tyJ10 k) := by decide +kernel
def RJ3 : String := "jdk/internal/util/Preconditions"
def TJ3 : u_T := fun k => match k with
  | _ => ("", "", "", false)
def tyJ3 : Nat → FieldType := fun k => match k with
  | _ => .int
abbrev wsJ30 : List Cond := u_ws RJ3 TJ3 0
theorem nmJ3 : ∀ a, a < 0 → ∀ b, b < 0 → a ≠ b → (TJ3 a).2.1 ≠ (TJ3 b).2.1 := by decide +kernel
theorem tyJ3_ok : ∀ k, k < 0 → parseFieldDescriptor (TJ3 k).2.2.1 = some (tyJ3 k) := by decide +kernel
abbrev cJ3_checkIndex_8e157 : ByteArray := prog_21_method_11_code
def yJ3_checkIndex_8e157 : MethodName := ⟨RJ3, "checkIndex", "(IILjava/util/function/BiFunction;)I"⟩
def RL : String := "FoldDeedsLaw"
abbrev cL_law : ByteArray := code
def yL_law : MethodName := ⟨RL, "law", "([I)Z"⟩
