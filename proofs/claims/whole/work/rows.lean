section
-- ===== PART A: goes FIRST, ahead of the names: the tables' words, and 'selects' of the private methods out of them =====
/-- a private method of a class that the tables say can be made, by its rows of tables_1 -/
def lw_okq (q : MethodName × Nat) : Prop := (q.1.cls ≠ "java/lang/invoke/MethodHandle" ∧ q.1.cls ≠ "java/lang/invoke/VarHandle") ∧ Cond.instantiable q.1.cls q.2 ∈ tables_1 ∧ Cond.privateMethod q.1 ∈ tables_1 ∧ Cond.instanceMethod q.1 ∈ tables_1
theorem lw_p0 : lw_okq (⟨"java/lang/Throwable", "fillInStackTrace", "(I)Ljava/lang/Throwable;"⟩, 6) := ⟨⟨by decide +kernel, by decide +kernel⟩, List.mem_of_getElem? (i := 330) (by decide +kernel), List.mem_of_getElem? (i := 328) (by decide +kernel), List.mem_of_getElem? (i := 329) (by decide +kernel)⟩
theorem lw_p1 : lw_okq (⟨"RankedSearch$Library", "indexOf", "(I)I"⟩, 4) := ⟨⟨by decide +kernel, by decide +kernel⟩, List.mem_of_getElem? (i := 58) (by decide +kernel), List.mem_of_getElem? (i := 382) (by decide +kernel), List.mem_of_getElem? (i := 383) (by decide +kernel)⟩
theorem lw_p2 : lw_okq (⟨"RankedSearch$Library", "documentAt", "(I)LRankedSearch$Document;"⟩, 4) := ⟨⟨by decide +kernel, by decide +kernel⟩, List.mem_of_getElem? (i := 58) (by decide +kernel), List.mem_of_getElem? (i := 387) (by decide +kernel), List.mem_of_getElem? (i := 388) (by decide +kernel)⟩
theorem lw_p3 : lw_okq (⟨"java/util/ArrayList", "add", "(Ljava/lang/Object;[Ljava/lang/Object;I)V"⟩, 3) := ⟨⟨by decide +kernel, by decide +kernel⟩, List.mem_of_getElem? (i := 64) (by decide +kernel), List.mem_of_getElem? (i := 432) (by decide +kernel), List.mem_of_getElem? (i := 433) (by decide +kernel)⟩
theorem lw_p4 : lw_okq (⟨"java/util/ArrayList", "grow", "()[Ljava/lang/Object;"⟩, 3) := ⟨⟨by decide +kernel, by decide +kernel⟩, List.mem_of_getElem? (i := 64) (by decide +kernel), List.mem_of_getElem? (i := 436) (by decide +kernel), List.mem_of_getElem? (i := 437) (by decide +kernel)⟩
theorem lw_p5 : lw_okq (⟨"java/util/ArrayList", "grow", "(I)[Ljava/lang/Object;"⟩, 3) := ⟨⟨by decide +kernel, by decide +kernel⟩, List.mem_of_getElem? (i := 64) (by decide +kernel), List.mem_of_getElem? (i := 440) (by decide +kernel), List.mem_of_getElem? (i := 441) (by decide +kernel)⟩
theorem lw_p6 : lw_okq (⟨"RankedSearch$Library", "forgetWords", "(LRankedSearch$Document;)V"⟩, 4) := ⟨⟨by decide +kernel, by decide +kernel⟩, List.mem_of_getElem? (i := 58) (by decide +kernel), List.mem_of_getElem? (i := 496) (by decide +kernel), List.mem_of_getElem? (i := 497) (by decide +kernel)⟩
theorem lw_p7 : lw_okq (⟨"RankedSearch$Library", "release", "(LRankedSearch$Posting;)V"⟩, 4) := ⟨⟨by decide +kernel, by decide +kernel⟩, List.mem_of_getElem? (i := 58) (by decide +kernel), List.mem_of_getElem? (i := 500) (by decide +kernel), List.mem_of_getElem? (i := 501) (by decide +kernel)⟩
theorem lw_p8 : lw_okq (⟨"java/util/ArrayList", "fastRemove", "([Ljava/lang/Object;I)V"⟩, 3) := ⟨⟨by decide +kernel, by decide +kernel⟩, List.mem_of_getElem? (i := 64) (by decide +kernel), List.mem_of_getElem? (i := 521) (by decide +kernel), List.mem_of_getElem? (i := 522) (by decide +kernel)⟩
theorem lw_p9 : lw_okq (⟨"RankedSearch$Lexicon", "takeWord", "()LRankedSearch$Word;"⟩, 2) := ⟨⟨by decide +kernel, by decide +kernel⟩, List.mem_of_getElem? (i := 90) (by decide +kernel), List.mem_of_getElem? (i := 557) (by decide +kernel), List.mem_of_getElem? (i := 558) (by decide +kernel)⟩
theorem lw_p10 : lw_okq (⟨"java/util/ArrayList", "rangeCheckForAdd", "(I)V"⟩, 3) := ⟨⟨by decide +kernel, by decide +kernel⟩, List.mem_of_getElem? (i := 64) (by decide +kernel), List.mem_of_getElem? (i := 600) (by decide +kernel), List.mem_of_getElem? (i := 601) (by decide +kernel)⟩
theorem lw_p11 : lw_okq (⟨"java/util/ArrayList", "outOfBoundsMsg", "(I)Ljava/lang/String;"⟩, 3) := ⟨⟨by decide +kernel, by decide +kernel⟩, List.mem_of_getElem? (i := 64) (by decide +kernel), List.mem_of_getElem? (i := 613) (by decide +kernel), List.mem_of_getElem? (i := 614) (by decide +kernel)⟩
theorem lw_p12 : lw_okq (⟨"RankedSearch$Library", "count", "(LRankedSearch$Document;LRankedSearch$Word;)V"⟩, 4) := ⟨⟨by decide +kernel, by decide +kernel⟩, List.mem_of_getElem? (i := 58) (by decide +kernel), List.mem_of_getElem? (i := 854) (by decide +kernel), List.mem_of_getElem? (i := 855) (by decide +kernel)⟩
theorem lw_p13 : lw_okq (⟨"RankedSearch$Library", "post", "(LRankedSearch$Document;LRankedSearch$Word;)LRankedSearch$Posting;"⟩, 4) := ⟨⟨by decide +kernel, by decide +kernel⟩, List.mem_of_getElem? (i := 58) (by decide +kernel), List.mem_of_getElem? (i := 858) (by decide +kernel), List.mem_of_getElem? (i := 859) (by decide +kernel)⟩
theorem lw_p14 : lw_okq (⟨"RankedSearch$Library", "takePosting", "()LRankedSearch$Posting;"⟩, 4) := ⟨⟨by decide +kernel, by decide +kernel⟩, List.mem_of_getElem? (i := 58) (by decide +kernel), List.mem_of_getElem? (i := 862) (by decide +kernel), List.mem_of_getElem? (i := 863) (by decide +kernel)⟩
theorem lw_p15 : lw_okq (⟨"RankedSearch$Query", "take", "(I)I"⟩, 6) := ⟨⟨by decide +kernel, by decide +kernel⟩, List.mem_of_getElem? (i := 121) (by decide +kernel), List.mem_of_getElem? (i := 972) (by decide +kernel), List.mem_of_getElem? (i := 973) (by decide +kernel)⟩
def lw_privs_1 : List (MethodName × Nat) := [(⟨"java/lang/Throwable", "fillInStackTrace", "(I)Ljava/lang/Throwable;"⟩, 6), (⟨"RankedSearch$Library", "indexOf", "(I)I"⟩, 4), (⟨"RankedSearch$Library", "documentAt", "(I)LRankedSearch$Document;"⟩, 4), (⟨"java/util/ArrayList", "add", "(Ljava/lang/Object;[Ljava/lang/Object;I)V"⟩, 3), (⟨"java/util/ArrayList", "grow", "()[Ljava/lang/Object;"⟩, 3), (⟨"java/util/ArrayList", "grow", "(I)[Ljava/lang/Object;"⟩, 3), (⟨"RankedSearch$Library", "forgetWords", "(LRankedSearch$Document;)V"⟩, 4), (⟨"RankedSearch$Library", "release", "(LRankedSearch$Posting;)V"⟩, 4), (⟨"java/util/ArrayList", "fastRemove", "([Ljava/lang/Object;I)V"⟩, 3), (⟨"RankedSearch$Lexicon", "takeWord", "()LRankedSearch$Word;"⟩, 2), (⟨"java/util/ArrayList", "rangeCheckForAdd", "(I)V"⟩, 3), (⟨"java/util/ArrayList", "outOfBoundsMsg", "(I)Ljava/lang/String;"⟩, 3), (⟨"RankedSearch$Library", "count", "(LRankedSearch$Document;LRankedSearch$Word;)V"⟩, 4), (⟨"RankedSearch$Library", "post", "(LRankedSearch$Document;LRankedSearch$Word;)LRankedSearch$Posting;"⟩, 4), (⟨"RankedSearch$Library", "takePosting", "()LRankedSearch$Posting;"⟩, 4), (⟨"RankedSearch$Query", "take", "(I)I"⟩, 6)]
theorem lw_r1 : ∀ q ∈ lw_privs_1, lw_okq q := List.forall_mem_cons.mpr ⟨lw_p0, List.forall_mem_cons.mpr ⟨lw_p1, List.forall_mem_cons.mpr ⟨lw_p2, List.forall_mem_cons.mpr ⟨lw_p3, List.forall_mem_cons.mpr ⟨lw_p4, List.forall_mem_cons.mpr ⟨lw_p5, List.forall_mem_cons.mpr ⟨lw_p6, List.forall_mem_cons.mpr ⟨lw_p7, List.forall_mem_cons.mpr ⟨lw_p8, List.forall_mem_cons.mpr ⟨lw_p9, List.forall_mem_cons.mpr ⟨lw_p10, List.forall_mem_cons.mpr ⟨lw_p11, List.forall_mem_cons.mpr ⟨lw_p12, List.forall_mem_cons.mpr ⟨lw_p13, List.forall_mem_cons.mpr ⟨lw_p14, List.forall_mem_cons.mpr ⟨lw_p15, fun _ h => absurd h List.not_mem_nil⟩⟩⟩⟩⟩⟩⟩⟩⟩⟩⟩⟩⟩⟩⟩⟩
theorem lw_p16 : lw_okq (⟨"RankedSearch$Query", "takeBetweenTerms", "(I)I"⟩, 6) := ⟨⟨by decide +kernel, by decide +kernel⟩, List.mem_of_getElem? (i := 121) (by decide +kernel), List.mem_of_getElem? (i := 976) (by decide +kernel), List.mem_of_getElem? (i := 977) (by decide +kernel)⟩
theorem lw_p17 : lw_okq (⟨"RankedSearch$Query", "takeBlank", "(I)I"⟩, 6) := ⟨⟨by decide +kernel, by decide +kernel⟩, List.mem_of_getElem? (i := 121) (by decide +kernel), List.mem_of_getElem? (i := 981) (by decide +kernel), List.mem_of_getElem? (i := 982) (by decide +kernel)⟩
theorem lw_p18 : lw_okq (⟨"RankedSearch$Query", "takeLetter", "(I)I"⟩, 6) := ⟨⟨by decide +kernel, by decide +kernel⟩, List.mem_of_getElem? (i := 121) (by decide +kernel), List.mem_of_getElem? (i := 989) (by decide +kernel), List.mem_of_getElem? (i := 990) (by decide +kernel)⟩
theorem lw_p19 : lw_okq (⟨"RankedSearch$Query", "takeBehindLetter", "(I)I"⟩, 6) := ⟨⟨by decide +kernel, by decide +kernel⟩, List.mem_of_getElem? (i := 121) (by decide +kernel), List.mem_of_getElem? (i := 999) (by decide +kernel), List.mem_of_getElem? (i := 1000) (by decide +kernel)⟩
theorem lw_p20 : lw_okq (⟨"RankedSearch$Query", "takeBehindStar", "(I)I"⟩, 6) := ⟨⟨by decide +kernel, by decide +kernel⟩, List.mem_of_getElem? (i := 121) (by decide +kernel), List.mem_of_getElem? (i := 1003) (by decide +kernel), List.mem_of_getElem? (i := 1004) (by decide +kernel)⟩
theorem lw_p21 : lw_okq (⟨"RankedSearch$Query", "takeFigure", "(I)I"⟩, 6) := ⟨⟨by decide +kernel, by decide +kernel⟩, List.mem_of_getElem? (i := 121) (by decide +kernel), List.mem_of_getElem? (i := 1007) (by decide +kernel), List.mem_of_getElem? (i := 1008) (by decide +kernel)⟩
theorem lw_p22 : lw_okq (⟨"RankedSearch$Query", "note", "(II)V"⟩, 6) := ⟨⟨by decide +kernel, by decide +kernel⟩, List.mem_of_getElem? (i := 121) (by decide +kernel), List.mem_of_getElem? (i := 1011) (by decide +kernel), List.mem_of_getElem? (i := 1012) (by decide +kernel)⟩
theorem lw_p23 : lw_okq (⟨"RankedSearch$Search", "follow", "(LRankedSearch$Term;ILRankedSearch$Library;)V"⟩, 2) := ⟨⟨by decide +kernel, by decide +kernel⟩, List.mem_of_getElem? (i := 183) (by decide +kernel), List.mem_of_getElem? (i := 1023) (by decide +kernel), List.mem_of_getElem? (i := 1024) (by decide +kernel)⟩
theorem lw_p24 : lw_okq (⟨"RankedSearch$Search", "bar", "(LRankedSearch$Word;)V"⟩, 2) := ⟨⟨by decide +kernel, by decide +kernel⟩, List.mem_of_getElem? (i := 183) (by decide +kernel), List.mem_of_getElem? (i := 1037) (by decide +kernel), List.mem_of_getElem? (i := 1038) (by decide +kernel)⟩
theorem lw_p25 : lw_okq (⟨"RankedSearch$Search", "meet", "(LRankedSearch$Document;)V"⟩, 2) := ⟨⟨by decide +kernel, by decide +kernel⟩, List.mem_of_getElem? (i := 183) (by decide +kernel), List.mem_of_getElem? (i := 1041) (by decide +kernel), List.mem_of_getElem? (i := 1042) (by decide +kernel)⟩
theorem lw_p26 : lw_okq (⟨"RankedSearch$Search", "reward", "(LRankedSearch$Word;II)V"⟩, 2) := ⟨⟨by decide +kernel, by decide +kernel⟩, List.mem_of_getElem? (i := 183) (by decide +kernel), List.mem_of_getElem? (i := 1046) (by decide +kernel), List.mem_of_getElem? (i := 1047) (by decide +kernel)⟩
theorem lw_p27 : lw_okq (⟨"RankedSearch$Search", "harvest", "(LRankedSearch$Best;)V"⟩, 2) := ⟨⟨by decide +kernel, by decide +kernel⟩, List.mem_of_getElem? (i := 183) (by decide +kernel), List.mem_of_getElem? (i := 1054) (by decide +kernel), List.mem_of_getElem? (i := 1055) (by decide +kernel)⟩
theorem lw_p28 : lw_okq (⟨"RankedSearch$Best", "goesBefore", "(III)Z"⟩, 4) := ⟨⟨by decide +kernel, by decide +kernel⟩, List.mem_of_getElem? (i := 196) (by decide +kernel), List.mem_of_getElem? (i := 1062) (by decide +kernel), List.mem_of_getElem? (i := 1063) (by decide +kernel)⟩
theorem lw_p29 : lw_okq (⟨"RankedSearch$Best", "set", "(III)V"⟩, 4) := ⟨⟨by decide +kernel, by decide +kernel⟩, List.mem_of_getElem? (i := 196) (by decide +kernel), List.mem_of_getElem? (i := 1074) (by decide +kernel), List.mem_of_getElem? (i := 1075) (by decide +kernel)⟩
theorem lw_p30 : lw_okq (⟨"RankedSearchModel", "placeOf", "(I)I"⟩, 27) := ⟨⟨by decide +kernel, by decide +kernel⟩, List.mem_of_getElem? (i := 1116) (by decide +kernel), List.mem_of_getElem? (i := 1227) (by decide +kernel), List.mem_of_getElem? (i := 1228) (by decide +kernel)⟩
theorem lw_p31 : lw_okq (⟨"RankedSearchModel", "remove", "(I)V"⟩, 27) := ⟨⟨by decide +kernel, by decide +kernel⟩, List.mem_of_getElem? (i := 1116) (by decide +kernel), List.mem_of_getElem? (i := 1231) (by decide +kernel), List.mem_of_getElem? (i := 1232) (by decide +kernel)⟩
def lw_privs_2 : List (MethodName × Nat) := [(⟨"RankedSearch$Query", "takeBetweenTerms", "(I)I"⟩, 6), (⟨"RankedSearch$Query", "takeBlank", "(I)I"⟩, 6), (⟨"RankedSearch$Query", "takeLetter", "(I)I"⟩, 6), (⟨"RankedSearch$Query", "takeBehindLetter", "(I)I"⟩, 6), (⟨"RankedSearch$Query", "takeBehindStar", "(I)I"⟩, 6), (⟨"RankedSearch$Query", "takeFigure", "(I)I"⟩, 6), (⟨"RankedSearch$Query", "note", "(II)V"⟩, 6), (⟨"RankedSearch$Search", "follow", "(LRankedSearch$Term;ILRankedSearch$Library;)V"⟩, 2), (⟨"RankedSearch$Search", "bar", "(LRankedSearch$Word;)V"⟩, 2), (⟨"RankedSearch$Search", "meet", "(LRankedSearch$Document;)V"⟩, 2), (⟨"RankedSearch$Search", "reward", "(LRankedSearch$Word;II)V"⟩, 2), (⟨"RankedSearch$Search", "harvest", "(LRankedSearch$Best;)V"⟩, 2), (⟨"RankedSearch$Best", "goesBefore", "(III)Z"⟩, 4), (⟨"RankedSearch$Best", "set", "(III)V"⟩, 4), (⟨"RankedSearchModel", "placeOf", "(I)I"⟩, 27), (⟨"RankedSearchModel", "remove", "(I)V"⟩, 27)]
theorem lw_r2 : ∀ q ∈ lw_privs_2, lw_okq q := List.forall_mem_cons.mpr ⟨lw_p16, List.forall_mem_cons.mpr ⟨lw_p17, List.forall_mem_cons.mpr ⟨lw_p18, List.forall_mem_cons.mpr ⟨lw_p19, List.forall_mem_cons.mpr ⟨lw_p20, List.forall_mem_cons.mpr ⟨lw_p21, List.forall_mem_cons.mpr ⟨lw_p22, List.forall_mem_cons.mpr ⟨lw_p23, List.forall_mem_cons.mpr ⟨lw_p24, List.forall_mem_cons.mpr ⟨lw_p25, List.forall_mem_cons.mpr ⟨lw_p26, List.forall_mem_cons.mpr ⟨lw_p27, List.forall_mem_cons.mpr ⟨lw_p28, List.forall_mem_cons.mpr ⟨lw_p29, List.forall_mem_cons.mpr ⟨lw_p30, List.forall_mem_cons.mpr ⟨lw_p31, fun _ h => absurd h List.not_mem_nil⟩⟩⟩⟩⟩⟩⟩⟩⟩⟩⟩⟩⟩⟩⟩⟩
theorem lw_p32 : lw_okq (⟨"RankedSearchModel", "readWords", "()V"⟩, 27) := ⟨⟨by decide +kernel, by decide +kernel⟩, List.mem_of_getElem? (i := 1116) (by decide +kernel), List.mem_of_getElem? (i := 1235) (by decide +kernel), List.mem_of_getElem? (i := 1236) (by decide +kernel)⟩
theorem lw_p33 : lw_okq (⟨"RankedSearchModel", "nextWord", "(J)J"⟩, 27) := ⟨⟨by decide +kernel, by decide +kernel⟩, List.mem_of_getElem? (i := 1116) (by decide +kernel), List.mem_of_getElem? (i := 1254) (by decide +kernel), List.mem_of_getElem? (i := 1255) (by decide +kernel)⟩
theorem lw_p34 : lw_okq (⟨"RankedSearchModel", "times", "(IJ)I"⟩, 27) := ⟨⟨by decide +kernel, by decide +kernel⟩, List.mem_of_getElem? (i := 1116) (by decide +kernel), List.mem_of_getElem? (i := 1267) (by decide +kernel), List.mem_of_getElem? (i := 1268) (by decide +kernel)⟩
theorem lw_p35 : lw_okq (⟨"RankedSearchModel", "having", "(J)I"⟩, 27) := ⟨⟨by decide +kernel, by decide +kernel⟩, List.mem_of_getElem? (i := 1116) (by decide +kernel), List.mem_of_getElem? (i := 1271) (by decide +kernel), List.mem_of_getElem? (i := 1272) (by decide +kernel)⟩
theorem lw_p36 : lw_okq (⟨"RankedSearchModel", "know", "()V"⟩, 27) := ⟨⟨by decide +kernel, by decide +kernel⟩, List.mem_of_getElem? (i := 1116) (by decide +kernel), List.mem_of_getElem? (i := 1275) (by decide +kernel), List.mem_of_getElem? (i := 1276) (by decide +kernel)⟩
theorem lw_p37 : lw_okq (⟨"RankedSearchModel", "isFirst", "(II)Z"⟩, 27) := ⟨⟨by decide +kernel, by decide +kernel⟩, List.mem_of_getElem? (i := 1116) (by decide +kernel), List.mem_of_getElem? (i := 1279) (by decide +kernel), List.mem_of_getElem? (i := 1280) (by decide +kernel)⟩
theorem lw_p38 : lw_okq (⟨"RankedSearchModel", "spot", "(J)I"⟩, 27) := ⟨⟨by decide +kernel, by decide +kernel⟩, List.mem_of_getElem? (i := 1116) (by decide +kernel), List.mem_of_getElem? (i := 1283) (by decide +kernel), List.mem_of_getElem? (i := 1284) (by decide +kernel)⟩
theorem lw_p39 : lw_okq (⟨"RankedSearchModel", "digitsOf", "(I)I"⟩, 27) := ⟨⟨by decide +kernel, by decide +kernel⟩, List.mem_of_getElem? (i := 1116) (by decide +kernel), List.mem_of_getElem? (i := 1288) (by decide +kernel), List.mem_of_getElem? (i := 1289) (by decide +kernel)⟩
theorem lw_p40 : lw_okq (⟨"RankedSearchModel", "impact", "(IJ)I"⟩, 27) := ⟨⟨by decide +kernel, by decide +kernel⟩, List.mem_of_getElem? (i := 1116) (by decide +kernel), List.mem_of_getElem? (i := 1292) (by decide +kernel), List.mem_of_getElem? (i := 1293) (by decide +kernel)⟩
theorem lw_p41 : lw_okq (⟨"RankedSearchModel", "rarity", "(J)I"⟩, 27) := ⟨⟨by decide +kernel, by decide +kernel⟩, List.mem_of_getElem? (i := 1116) (by decide +kernel), List.mem_of_getElem? (i := 1296) (by decide +kernel), List.mem_of_getElem? (i := 1297) (by decide +kernel)⟩
theorem lw_p42 : lw_okq (⟨"RankedSearchModel", "isQuery", "()Z"⟩, 27) := ⟨⟨by decide +kernel, by decide +kernel⟩, List.mem_of_getElem? (i := 1116) (by decide +kernel), List.mem_of_getElem? (i := 1304) (by decide +kernel), List.mem_of_getElem? (i := 1305) (by decide +kernel)⟩
theorem lw_p43 : lw_okq (⟨"RankedSearchModel", "skip", "()V"⟩, 27) := ⟨⟨by decide +kernel, by decide +kernel⟩, List.mem_of_getElem? (i := 1116) (by decide +kernel), List.mem_of_getElem? (i := 1308) (by decide +kernel), List.mem_of_getElem? (i := 1309) (by decide +kernel)⟩
theorem lw_p44 : lw_okq (⟨"RankedSearchModel", "isBlank", "()Z"⟩, 27) := ⟨⟨by decide +kernel, by decide +kernel⟩, List.mem_of_getElem? (i := 1116) (by decide +kernel), List.mem_of_getElem? (i := 1312) (by decide +kernel), List.mem_of_getElem? (i := 1313) (by decide +kernel)⟩
theorem lw_p45 : lw_okq (⟨"RankedSearchModel", "isTermStart", "()Z"⟩, 27) := ⟨⟨by decide +kernel, by decide +kernel⟩, List.mem_of_getElem? (i := 1116) (by decide +kernel), List.mem_of_getElem? (i := 1316) (by decide +kernel), List.mem_of_getElem? (i := 1317) (by decide +kernel)⟩
theorem lw_p46 : lw_okq (⟨"RankedSearchModel", "bad", "(ZI)Z"⟩, 27) := ⟨⟨by decide +kernel, by decide +kernel⟩, List.mem_of_getElem? (i := 1116) (by decide +kernel), List.mem_of_getElem? (i := 1320) (by decide +kernel), List.mem_of_getElem? (i := 1321) (by decide +kernel)⟩
theorem lw_p47 : lw_okq (⟨"RankedSearchModel", "isTermBad", "()Z"⟩, 27) := ⟨⟨by decide +kernel, by decide +kernel⟩, List.mem_of_getElem? (i := 1116) (by decide +kernel), List.mem_of_getElem? (i := 1324) (by decide +kernel), List.mem_of_getElem? (i := 1325) (by decide +kernel)⟩
def lw_privs_3 : List (MethodName × Nat) := [(⟨"RankedSearchModel", "readWords", "()V"⟩, 27), (⟨"RankedSearchModel", "nextWord", "(J)J"⟩, 27), (⟨"RankedSearchModel", "times", "(IJ)I"⟩, 27), (⟨"RankedSearchModel", "having", "(J)I"⟩, 27), (⟨"RankedSearchModel", "know", "()V"⟩, 27), (⟨"RankedSearchModel", "isFirst", "(II)Z"⟩, 27), (⟨"RankedSearchModel", "spot", "(J)I"⟩, 27), (⟨"RankedSearchModel", "digitsOf", "(I)I"⟩, 27), (⟨"RankedSearchModel", "impact", "(IJ)I"⟩, 27), (⟨"RankedSearchModel", "rarity", "(J)I"⟩, 27), (⟨"RankedSearchModel", "isQuery", "()Z"⟩, 27), (⟨"RankedSearchModel", "skip", "()V"⟩, 27), (⟨"RankedSearchModel", "isBlank", "()Z"⟩, 27), (⟨"RankedSearchModel", "isTermStart", "()Z"⟩, 27), (⟨"RankedSearchModel", "bad", "(ZI)Z"⟩, 27), (⟨"RankedSearchModel", "isTermBad", "()Z"⟩, 27)]
theorem lw_r3 : ∀ q ∈ lw_privs_3, lw_okq q := List.forall_mem_cons.mpr ⟨lw_p32, List.forall_mem_cons.mpr ⟨lw_p33, List.forall_mem_cons.mpr ⟨lw_p34, List.forall_mem_cons.mpr ⟨lw_p35, List.forall_mem_cons.mpr ⟨lw_p36, List.forall_mem_cons.mpr ⟨lw_p37, List.forall_mem_cons.mpr ⟨lw_p38, List.forall_mem_cons.mpr ⟨lw_p39, List.forall_mem_cons.mpr ⟨lw_p40, List.forall_mem_cons.mpr ⟨lw_p41, List.forall_mem_cons.mpr ⟨lw_p42, List.forall_mem_cons.mpr ⟨lw_p43, List.forall_mem_cons.mpr ⟨lw_p44, List.forall_mem_cons.mpr ⟨lw_p45, List.forall_mem_cons.mpr ⟨lw_p46, List.forall_mem_cons.mpr ⟨lw_p47, fun _ h => absurd h List.not_mem_nil⟩⟩⟩⟩⟩⟩⟩⟩⟩⟩⟩⟩⟩⟩⟩⟩
theorem lw_p48 : lw_okq (⟨"RankedSearchModel", "byteAt", "(I)I"⟩, 27) := ⟨⟨by decide +kernel, by decide +kernel⟩, List.mem_of_getElem? (i := 1116) (by decide +kernel), List.mem_of_getElem? (i := 1328) (by decide +kernel), List.mem_of_getElem? (i := 1329) (by decide +kernel)⟩
theorem lw_p49 : lw_okq (⟨"RankedSearchModel", "pick", "(II)I"⟩, 27) := ⟨⟨by decide +kernel, by decide +kernel⟩, List.mem_of_getElem? (i := 1116) (by decide +kernel), List.mem_of_getElem? (i := 1332) (by decide +kernel), List.mem_of_getElem? (i := 1333) (by decide +kernel)⟩
theorem lw_p50 : lw_okq (⟨"RankedSearchModel", "scoreOf", "(I)I"⟩, 27) := ⟨⟨by decide +kernel, by decide +kernel⟩, List.mem_of_getElem? (i := 1116) (by decide +kernel), List.mem_of_getElem? (i := 1336) (by decide +kernel), List.mem_of_getElem? (i := 1337) (by decide +kernel)⟩
theorem lw_p51 : lw_okq (⟨"RankedSearchModel", "stands", "(IJ)Z"⟩, 27) := ⟨⟨by decide +kernel, by decide +kernel⟩, List.mem_of_getElem? (i := 1116) (by decide +kernel), List.mem_of_getElem? (i := 1340) (by decide +kernel), List.mem_of_getElem? (i := 1341) (by decide +kernel)⟩
def lw_privs_4 : List (MethodName × Nat) := [(⟨"RankedSearchModel", "byteAt", "(I)I"⟩, 27), (⟨"RankedSearchModel", "pick", "(II)I"⟩, 27), (⟨"RankedSearchModel", "scoreOf", "(I)I"⟩, 27), (⟨"RankedSearchModel", "stands", "(IJ)Z"⟩, 27)]
theorem lw_r4 : ∀ q ∈ lw_privs_4, lw_okq q := List.forall_mem_cons.mpr ⟨lw_p48, List.forall_mem_cons.mpr ⟨lw_p49, List.forall_mem_cons.mpr ⟨lw_p50, List.forall_mem_cons.mpr ⟨lw_p51, fun _ h => absurd h List.not_mem_nil⟩⟩⟩⟩
def lw_privs : List (MethodName × Nat) := lw_privs_1 ++ (lw_privs_2 ++ (lw_privs_3 ++ (lw_privs_4)))
def lw_tbl : List Cond := k2_sels lw_privs ++ tables_1
theorem lw_privs_ok : ∀ q ∈ lw_privs, lw_okq q := by
  show ∀ q ∈ lw_privs_1 ++ (lw_privs_2 ++ (lw_privs_3 ++ (lw_privs_4))), lw_okq q
  exact List.forall_mem_append.mpr ⟨lw_r1, List.forall_mem_append.mpr ⟨lw_r2, List.forall_mem_append.mpr ⟨lw_r3, lw_r4⟩⟩⟩
end
section
/-! ===== BEGIN words of one list among another's, by their places ===== -/
theorem goodIn_r {big : List Cond} (ws : List Cond) (ps : List Nat) (hp : ws = ps.filterMap (fun i => big[i]?)) (h : ws.all goodWord = true) : GoodIn big ws := by
  intro w hw
  have h1 := List.all_eq_true.mp h w hw
  rw [hp] at hw
  obtain ⟨i, -, hi⟩ := List.mem_filterMap.mp hw
  have hm : w ∈ big := by first | exact List.mem_of_getElem? hi | exact List.getElem?_mem hi
  exact ⟨hm, good_of_word h1⟩
theorem goodIn_app {big a b : List Cond} (ha : GoodIn big a) (hb : GoodIn big b) : GoodIn big (a ++ b) := fun w h => (List.mem_append.mp h).elim (ha w) (hb w)
theorem goodIn_ca {big a b : List Cond} {c : Cond} (ha : GoodIn big (c :: a)) (hb : GoodIn big b) : GoodIn big (c :: (a ++ b)) := fun w h => (List.mem_cons.mp h).elim (fun e => ha w (List.mem_cons.mpr (Or.inl e))) (fun h => (List.mem_append.mp h).elim (fun h => ha w (List.mem_cons.mpr (Or.inr h))) (hb w))
theorem goodIn_sub {big ws : List Cond} (hm : ∀ w ∈ ws, w ∈ big) (h : ws.all goodWord = true) : GoodIn big ws := fun w hw => ⟨hm w hw, good_of_word (List.all_eq_true.mp h w hw)⟩
/-! ===== END ===== -/

/-! ===== BEGIN exceptions that leave a method, and their catching by the caller (launches without stack traces) ===== -/
section VXA
/-! The laws vx_back, vx_callV, vx_callS, vx_callSW, vx_throw0, vx_throwS follow proofs of the library, with one case more: JvmDerived/Free/Laws.lean (Back.of_free), Shelf42/LK1.lean (callV, callS), Shelf/KitTraced.lean (throwNew0V, throwNewS). -/
/-- where a method has thrown q: the class by its name, the cell, what was written, the world -/
def vx_T (XC : String → State → State → Prop) (st : State) (q : Addr) (t : State) (mc ms : Nat) (free : Addr → Prop) : Prop :=
  ∃ (E : String) (ce : Cell) (L : List Loc), XC E st t ∧ t.heap[q]? = some ce ∧ ce.vm = .none ∧ st.vm.findClass E = some ce.cls ∧ st.WarmedH t.vm ∧ st.sameButNew ({ t with vm := st.vm } : State) L mc ms ∧ ∀ z ∈ L, free z.base
def vx_Q (Qc : Array Value → State → Outcome → State → Prop) (XC : String → State → State → Prop) (mc ms : Nat) (free : Addr → Prop) : Array Value → State → Outcome → State → Prop := fun a st o t =>
  (Qc a st o t ∧ ∃ L, FrameEnd st o t L mc ms ∧ ∀ q ∈ L, free q.base) ∨ ∃ q, o = .threw q ∧ vx_T XC st q t mc ms free
/-- a callee that returns or throws -/
def vx_Met (l : Launch) (y : MethodName) (ws : List Cond) (rm : Room) (Pc : Array Value → State → Prop) (Qc : Array Value → State → Outcome → State → Prop) (XC : String → State → State → Prop) (mc ms : Nat) (free : Addr → Prop) : Prop :=
  MetFree l y (headSpec ws rm) Pc (fun _ _ _ _ _ => True) (vx_Q Qc XC mc ms free)
def vx_Post (XC : String → State → State → Prop) (mc ms : Nat) (free : Addr → Prop) : Pt → Array Value → Addr → Pt → Prop := fun A a q B =>
  ∃ (g : JFrame) (mk : MethodId) (t : State) (L : List Loc) (E : String) (ce : Cell), B.U.heap = t.heap ∧ B.U.vm = t.vm ∧ XC E (A.U.calling g mk a) t ∧ t.heap[q]? = some ce ∧ ce.vm = .none ∧ A.U.vm.findClass E = some ce.cls ∧ B.locs = A.locs ++ L ∧ (∀ z ∈ L, free z.base) ∧ B.cells = A.cells + mc ∧ B.slots = A.slots + ms
def vx_Back (l : Launch) (R : Room) (p : Program) (e : Env) (below : List Frame) (s : State) (sargs : Array Value) (y : MethodName) (len W9 : Nat)
    (Pre : Pt → Array Value → Prop) (Post : Pt → Array Value → Option Value → Pt → Prop) (PostX : Pt → Array Value → Addr → Pt → Prop) : Prop :=
  ∀ (m : MethodId) (meth : Method) (c : Code) (A : Pt) (g : JFrame) (ig : Instr) (mk : MethodId) (a : Array Value),
    Stand p l e R s m sargs below meth c A.U A.locs A.cells A.slots → g.method = m → g.locals.size = c.maxLocals → decode c.code g.pc = .ok (ig, len) →
    2 * g.monitorRoom + (g.stack.map fun v => v.category).sum ≤ W9 → A.U.methodNamed? y = some mk → Pre A a →
    (∃ (v : Option Value) (B : Pt), Stand p l e R s m sargs below meth c B.U B.locs B.cells B.slots ∧ Post A a v B ∧
      Steps p.tables e below (doInvoke e (A.U.setTop g) [] mk a).1 (B.U.setTop { g with pc := g.pc + len, stack := v.toList ++ g.stack })) ∨
    (∃ (q : Addr) (B : Pt), Stand p l e R s m sargs below meth c B.U B.locs B.cells B.slots ∧ PostX A a q B ∧
      Steps p.tables e below (doInvoke e (A.U.setTop g) [] mk a).1 ((B.U.setTop g).pushFrame (.throwing q)))
section Payer
variable {l : Launch} {R : Room} {p : Program} {e : Env} {below : List Frame} {s : State} {sargs : Array Value} {y : MethodName} {len W9 : Nat}
theorem vx_back {ws : List Cond} {rm : Room} {Pc : Array Value → State → Prop} {Qc : Array Value → State → Outcome → State → Prop} {XC : String → State → State → Prop} {mc ms : Nat} {free : Addr → Prop} {bytes : ByteArray} {maxL : Nat} {ret : Option FieldType}
    (hM : vx_Met l y ws rm Pc Qc XC mc ms free) (hblind : FrameBlind Pc) (hrc : rm.cells = mc) (hrs : rm.slots = ms)
    (hframes : rm.frames + 1 ≤ R.frames) (hlocals : W9 + (maxL + 11) + rm.locals ≤ R.locals)
    (hws : ∀ w ∈ ws, ∀ a' U, s.WarmedH U.vm → w.before a' U = true) (hcode : Cond.code y bytes maxL ret ∈ ws) (hinit : ∀ a' U, s.WarmedH U.vm → (Cond.initialized y.cls).before a' U = true) :
    vx_Back l R p e below s sargs y len W9 (PreOf R mc ms Pc) (PostOf Qc mc ms free) (vx_Post XC mc ms free) := by
  intro m meth c A g ig mk a X hg hsize hdg hW hn hp
  have h1 : (headSpec ws rm).pre.before a A.U = true := atoms_intro fun w hw => hws w hw _ _ X.warmed
  have h2 : (Cond.code y bytes maxL ret).before a A.U = true := hws _ hcode _ _ X.warmed
  have h3 : (Cond.initialized y.cls).before a A.U = true := hinit _ _ X.warmed
  have h4 : A.cells + (headSpec ws rm).room.cells ≤ R.cells := by rw [show (headSpec ws rm).room.cells = mc from hrc]; exact hp.1
  have h5 : A.slots + (headSpec ws rm).room.slots ≤ R.slots := by rw [show (headSpec ws rm).room.slots = ms from hrs]; exact hp.2.1
  have hPc : Pc a (A.U.calling g mk a) := hblind _ _ _ _ hp.2.2
  obtain ⟨U, Ls, c0, s0⟩ := A
  dsimp only [Pt.U, Pt.locs, Pt.cells, Pt.slots] at h1 h2 h3 h4 h5 X hn hPc ⊢
  obtain ⟨methY, cY, hmY, hcY, -, hlY, -, -, -, -⟩ := Cond.code_spec hn h2
  obtain ⟨kY, hkY, -⟩ := className_of_methodNamed hn
  have hinitY : kY.init = .initialized := Cond.initialized_spec (findClass_of_methodNamed hn) hkY h3
  have h : At U g.method c below := by rw [hg]; exact X.here
  have hlocals9 : W9 + (maxL + 11) + (headSpec ws rm).room.locals ≤ R.locals := hlocals
  have happ : (headSpec ws rm).appliesLoose y e.platform (U.calling g mk a) = true :=
    Spec.appliesLoose_calling (g := g) h hdg hn hkY hinitY
      (X.room_calling (g := g) (R' := (headSpec ws rm).room) hsize hmY hcY hframes (by rw [hlY]; omega) h4 h5) h1
  obtain ⟨mid, hmid⟩ := h.above
  have hfr : (U.setTop g).frames = (.java g :: mid) ++ below := by rw [State.frames_setTop' g h.top, hmid]; rfl
  obtain ⟨o, s₂, hsteps, -, hend, hq⟩ := Steps.callFree hM p X.admits X.cas X.clock (acts := []) hfr happ hPc trivial
  have hq' : vx_Q Qc XC mc ms free a (U.calling g mk a) o s₂ := hq
  rw [State.frames_setTop' g h.top] at hend
  obtain ⟨g₀, hg0⟩ := Option.isSome_iff_exists.mp h.top
  obtain ⟨r, hr⟩ := State.topJava?_eq_some.mp hg0
  have hr' : (({ U with heap := s₂.heap, slotsUsed := s₂.slotsUsed } : State).setVm s₂.vm).frames = .java g₀ :: r := hr
  rcases hq' with ⟨hqc, L, hfe, hL⟩ | ⟨q, rfl, E, ce, L, hx, hce, hcv, hcl, hW₂, hsm, hL⟩
  · obtain ⟨⟨v, rfl⟩, hW₂, e2, q2, q3, q4, q5, q6⟩ := id hfe
    have e3 : s₂ = ({ (U.calling g mk a).setFrames s₂.frames with heap := s₂.heap, slotsUsed := s₂.slotsUsed } : State).setVm s₂.vm := by
      have : s₂ = ({ s₂ with vm := (U.calling g mk a).vm } : State).setVm s₂.vm := rfl
      rw [e2] at this
      exact this
    obtain ⟨c₂, i₂, len₂, hc₂, hd₂, hf₂⟩ := hend
    have hW' : U.WarmedH s₂.vm := hW₂
    have hcc : c₂ = c := by
      have h1 : s₂.code? g.method = U.code? g.method := by
        rw [State.code?_eq, State.code?_eq, hW'.alike.method?]
      exact Option.some.inj (hc₂.symm.trans (h1.trans h.code))
    subst hcc
    have hlen : len₂ = len := by rw [hdg] at hd₂; cases hd₂; rfl
    subst hlen
    have hs₂ : s₂ = (({ U with heap := s₂.heap, slotsUsed := s₂.slotsUsed } : State).setVm s₂.vm).setTop { g with pc := g.pc + len₂, stack := v.toList ++ g.stack } := by
      refine e3.trans ?_
      rw [hf₂, State.calling_eq h.top, State.setFrames_setFrames, State.setTop_of_frames _ hr', hr]
      rfl
    have hsame : U.sameButNew ({ U with heap := s₂.heap, slotsUsed := s₂.slotsUsed } : State) L mc ms := by
      refine ⟨?_, q2, q3, q4, q5, q6⟩
      obtain ⟨t, ht, -⟩ := State.frames_cons hr
      show ({ U with heap := s₂.heap, slotsUsed := s₂.slotsUsed } : State) = { U.setFrames U.frames with heap := s₂.heap, slotsUsed := s₂.slotsUsed }
      rw [State.setFrames_self ht]
    subst hg
    refine Or.inl ⟨v, ⟨(({ U with heap := s₂.heap, slotsUsed := s₂.slotsUsed } : State).setVm s₂.vm), Ls ++ L, c0 + mc, s0 + ms⟩,
      ⟨X.admits, X.cas, X.clock, X.frames, X.room, X.hears, X.method, X.code, (X.here.setHeapUsed s₂.heap s₂.slotsUsed).setVm hW'.alike, X.tail, State.WarmedH.trans X.warmed hW', X.limits, X.bytes, X.same.trans (hsame.setVm s.vm)⟩,
      ⟨g, mk, s₂, L, rfl, rfl, hqc, rfl, hL, rfl, rfl⟩, ?_⟩
    show Steps p.tables e below _ ((({ U with heap := s₂.heap, slotsUsed := s₂.slotsUsed } : State).setVm s₂.vm).setTop { g with pc := g.pc + len₂, stack := v.toList ++ g.stack })
    rw [← hs₂]
    exact hsteps
  · obtain ⟨e2, q2, q3, q4, q5, q6⟩ := id hsm
    have e3 : s₂ = ({ (U.calling g mk a).setFrames s₂.frames with heap := s₂.heap, slotsUsed := s₂.slotsUsed } : State).setVm s₂.vm := by
      have : s₂ = ({ s₂ with vm := (U.calling g mk a).vm } : State).setVm s₂.vm := rfl
      rw [e2] at this
      exact this
    have hf₂ : s₂.frames = .throwing q :: .java g :: U.frames.tail := hend
    have hW' : U.WarmedH s₂.vm := hW₂
    have hs₂ : s₂ = ((({ U with heap := s₂.heap, slotsUsed := s₂.slotsUsed } : State).setVm s₂.vm).setTop g).pushFrame (.throwing q) := by
      refine e3.trans ?_
      rw [hf₂, State.calling_eq h.top, State.setFrames_setFrames, State.pushFrame, State.frames_setTop _ hr', State.setTop_of_frames _ hr', State.setFrames_setFrames, hr]
      rfl
    have hsame : U.sameButNew ({ U with heap := s₂.heap, slotsUsed := s₂.slotsUsed } : State) L mc ms := by
      refine ⟨?_, q2, q3, q4, q5, q6⟩
      obtain ⟨t, ht, -⟩ := State.frames_cons hr
      show ({ U with heap := s₂.heap, slotsUsed := s₂.slotsUsed } : State) = { U.setFrames U.frames with heap := s₂.heap, slotsUsed := s₂.slotsUsed }
      rw [State.setFrames_self ht]
    subst hg
    refine Or.inr ⟨q, ⟨(({ U with heap := s₂.heap, slotsUsed := s₂.slotsUsed } : State).setVm s₂.vm), Ls ++ L, c0 + mc, s0 + ms⟩,
      ⟨X.admits, X.cas, X.clock, X.frames, X.room, X.hears, X.method, X.code, (X.here.setHeapUsed s₂.heap s₂.slotsUsed).setVm hW'.alike, X.tail, State.WarmedH.trans X.warmed hW', X.limits, X.bytes, X.same.trans (hsame.setVm s.vm)⟩,
      ⟨g, mk, s₂, L, E, ce, rfl, rfl, hx, hce, hcv, hcl, rfl, hL, rfl, rfl⟩, ?_⟩
    show Steps p.tables e below _ (((({ U with heap := s₂.heap, slotsUsed := s₂.slotsUsed } : State).setVm s₂.vm).setTop g).pushFrame (.throwing q))
    rw [← hs₂]
    exact hsteps
end Payer
section Calls
variable {p : Program} {l : Launch} {e : Env} {R : Room} {s : State} {m : MethodId} {args : Array Value} {below : List Frame} {meth : Method} {c : Code} {T : State} {locs : List Loc} {cells slots : Nat}
theorem vx_callV (X : Stand p l e R s m args below meth c T locs cells slots) (hexec : p.tables.exec = Jvm.exec) {own C : String} {index : Nat} {y : MethodName} {bytes : ByteArray} {maxL : Nat} {ret : Option FieldType}
    (hown : s.vm.findClass own = some m.cls) (hlink : (Cond.methodLink own index y).before args s = true) (hinst : (Cond.instanceMethod y).before args s = true) (hsel : (Cond.selects C y y).before args s = true)
    (hcode : (Cond.code y bytes maxL ret).before args s = true) (hy : y.cls ≠ "java/lang/invoke/MethodHandle" ∧ y.cls ≠ "java/lang/invoke/VarHandle")
    {W9 : Nat} {Pre : Pt → Array Value → Prop} {Post : Pt → Array Value → Option Value → Pt → Prop} {PostX : Pt → Array Value → Addr → Pt → Prop} (hK : vx_Back l R p e below s args y 3 W9 Pre Post PostX)
    {b : Addr} {cellB : Cell} (hcell : T.heap[b]? = some cellB) (hobj : cellB.vm.isStatics = false) (hcls : s.vm.findClass C = some cellB.cls)
    {g : JFrame} (hg : g.method = m) (hsize : g.locals.size = c.maxLocals) {argsL rest : List Value} (hlen : ∀ sig, parseMethodDescriptor y.desc = some sig → argsL.length = sig.parameters.length)
    (hstack : g.stack = argsL.reverse ++ .ref b :: rest) (hW : 2 * g.monitorRoom + (rest.map fun v => v.category).sum ≤ W9) (hdg : decode c.code g.pc = .ok (.invokevirtual index, 3))
    (hpre : ∀ vm₁, s.WarmedH vm₁ → Pre ⟨T.setVm vm₁, locs, cells, slots⟩ (Value.ref b :: argsL).toArray) :
    (∃ (v : Option Value) (vm₁ : Vm) (B : Pt), s.WarmedH vm₁ ∧ Stand p l e R s m args below meth c B.U B.locs B.cells B.slots ∧ Post ⟨T.setVm vm₁, locs, cells, slots⟩ (Value.ref b :: argsL).toArray v B ∧
      ∀ target, Steps p.tables e below (B.U.setTop { g with pc := g.pc + 3, stack := v.toList ++ rest }) target → Steps p.tables e below (T.setTop g) target) ∨
    (∃ (q : Addr) (vm₁ : Vm) (B : Pt), s.WarmedH vm₁ ∧ Stand p l e R s m args below meth c B.U B.locs B.cells B.slots ∧ PostX ⟨T.setVm vm₁, locs, cells, slots⟩ (Value.ref b :: argsL).toArray q B ∧
      Steps p.tables e below (T.setTop g) ((B.U.setTop { g with stack := rest }).pushFrame (.throwing q))) := by
  obtain ⟨mk, methM, hnamed, hmethM, hstM, habM⟩ := Cond.instanceMethod_spec hinst
  obtain ⟨methM', cM, hmethM', -, -, -, -, -, -, hsigM⟩ := Cond.code_spec hnamed hcode
  cases hmethM.symm.trans hmethM'
  obtain ⟨c2, r2, m2, q1, q2, q3, q4, kP, hkP, hkPi⟩ := Cond.selects_spec hsel
  cases hcls.symm.trans q1
  cases (State.methodFound?_of_named hnamed hy).symm.trans q2
  cases hnamed.symm.trans q3
  have hselP : selectMethod e.platform s.vm cellB.cls mk = .method mk := by rw [Launch.admits_selectMethod X.admits]; exact q4
  obtain ⟨vm₁, X₁, hstep₁⟩ := X.invokevirtual hexec hown hlink hnamed hmethM hstM hkP hkPi hy (a := b) (cell := cellB) hcell
    (fun z h => by rw [h] at hobj; cases hobj) hselP hmethM habM hkP hkPi (g := g) hg (argsL := argsL) (rest := rest) (hlen _ hsigM) hstack hdg
  rcases hK m meth c ⟨T.setVm vm₁, locs, cells, slots⟩ { g with stack := rest } (.invokevirtual index) mk (Value.ref b :: argsL).toArray X₁ hg hsize hdg hW (X₁.named hnamed) (hpre vm₁ X₁.warmed) with ⟨v, B, X', hpost, hsteps⟩ | ⟨q, B, X', hpost, hsteps⟩
  · exact Or.inl ⟨v, vm₁, B, X₁.warmed, X', hpost, fun target h => hstep₁ _ fun acts => by rw [doInvoke_state]; exact hsteps.trans h⟩
  · exact Or.inr ⟨q, vm₁, B, X₁.warmed, X', hpost, hstep₁ _ fun acts => by rw [doInvoke_state]; exact hsteps⟩
theorem vx_callS (X : Stand p l e R s m args below meth c T locs cells slots) (hexec : p.tables.exec = Jvm.exec) {own : String} {index : Nat} {y : MethodName} {bytes : ByteArray} {maxL : Nat} {ret : Option FieldType}
    (hown : s.vm.findClass own = some m.cls) (hlink : (Cond.methodLink own index y).before args s = true) (hstat : (Cond.static y).before args s = true) (hinit : (Cond.initialized y.cls).before args s = true)
    (hcode : (Cond.code y bytes maxL ret).before args s = true) (hy : y.cls ≠ "java/lang/invoke/MethodHandle" ∧ y.cls ≠ "java/lang/invoke/VarHandle")
    {W9 : Nat} {Pre : Pt → Array Value → Prop} {Post : Pt → Array Value → Option Value → Pt → Prop} {PostX : Pt → Array Value → Addr → Pt → Prop} (hK : vx_Back l R p e below s args y 3 W9 Pre Post PostX)
    {g : JFrame} (hg : g.method = m) (hsize : g.locals.size = c.maxLocals) {argsL rest : List Value} (hlen : ∀ sig, parseMethodDescriptor y.desc = some sig → argsL.length = sig.parameters.length)
    (hstack : g.stack = argsL.reverse ++ rest) (hW : 2 * g.monitorRoom + (rest.map fun v => v.category).sum ≤ W9) (hdg : decode c.code g.pc = .ok (.invokestatic index, 3))
    (hpre : ∀ vm₁, s.WarmedH vm₁ → Pre ⟨T.setVm vm₁, locs, cells, slots⟩ argsL.toArray) :
    (∃ (v : Option Value) (vm₁ : Vm) (B : Pt), s.WarmedH vm₁ ∧ Stand p l e R s m args below meth c B.U B.locs B.cells B.slots ∧ Post ⟨T.setVm vm₁, locs, cells, slots⟩ argsL.toArray v B ∧
      ∀ target, Steps p.tables e below (B.U.setTop { g with pc := g.pc + 3, stack := v.toList ++ rest }) target → Steps p.tables e below (T.setTop g) target) ∨
    (∃ (q : Addr) (vm₁ : Vm) (B : Pt), s.WarmedH vm₁ ∧ Stand p l e R s m args below meth c B.U B.locs B.cells B.slots ∧ PostX ⟨T.setVm vm₁, locs, cells, slots⟩ argsL.toArray q B ∧
      Steps p.tables e below (T.setTop g) ((B.U.setTop { g with stack := rest }).pushFrame (.throwing q))) := by
  obtain ⟨mk, hnamed⟩ := Cond.code_named hcode
  obtain ⟨methM, cM, hmethM, -, -, -, -, -, -, hsigM⟩ := Cond.code_spec hnamed hcode
  have hstatic : methM.isStatic = true := Cond.static_spec hnamed hmethM hstat
  obtain ⟨kP, hkP, -⟩ := className_of_methodNamed hnamed
  have hinitP : kP.init = .initialized := Cond.initialized_spec (findClass_of_methodNamed hnamed) hkP hinit
  obtain ⟨vm₁, X₁, hstep₁⟩ := X.invokestatic hexec hown hlink hnamed hmethM hstatic hkP hinitP hy (g := g) hg (argsL := argsL) (rest := rest) (hlen _ hsigM) hstack hdg
  rcases hK m meth c ⟨T.setVm vm₁, locs, cells, slots⟩ { g with stack := rest } (.invokestatic index) mk argsL.toArray X₁ hg hsize hdg hW (X₁.named hnamed) (hpre vm₁ X₁.warmed) with ⟨v, B, X', hpost, hsteps⟩ | ⟨q, B, X', hpost, hsteps⟩
  · exact Or.inl ⟨v, vm₁, B, X₁.warmed, X', hpost, fun target h => hstep₁ _ fun acts => by rw [doInvoke_state]; exact hsteps.trans h⟩
  · exact Or.inr ⟨q, vm₁, B, X₁.warmed, X', hpost, hstep₁ _ fun acts => by rw [doInvoke_state]; exact hsteps⟩
end Calls
theorem vx_cls {s : State} {T : State} {vm₁ : Vm} {E : String} {k : ClassId} (hW : s.WarmedH vm₁) (h : (T.setVm vm₁).vm.findClass E = some k) : s.vm.findClass E = some k := by
  have h1 : vm₁.findClass E = some k := h
  rw [hW.alike.findClass] at h1
  exact h1
/-- the method's frame g, with q thrown over it -/
def vx_W (p : Program) (l : Launch) (e : Env) (R : Room) (s : State) (m : MethodId) (args : Array Value) (below : List Frame) (meth : Method) (c : Code) (H : Heap) (locs : List Loc) (cells slots : Nat) (Q : State → Prop) (g : JFrame) (q : Addr) : Prop :=
  ∀ T : State, T.heap = H → Stand p l e R s m args below meth c T locs cells slots → ∃ t, Steps p.tables e below ((T.setTop g).pushFrame (.throwing q)) t ∧ Q t
def vx_Run (p : Program) (l : Launch) (e : Env) (R : Room) (s : State) (m : MethodId) (args : Array Value) (below : List Frame) (meth : Method) (c : Code) (H : Heap) (locs : List Loc) (cells slots mc ms : Nat) (g : JFrame) (rest : List Value) (Qa : State → Outcome → State → Prop) (XC : String → State → State → Prop) (free : Addr → Prop) : Prop :=
  ∀ T : State, T.heap = H → Stand p l e R s m args below meth c T locs cells slots →
    (∃ (v : Option Value) (st₀ t T' : State) (L : List Loc), st₀.heap = H ∧ Stand p l e R s m args below meth c T' (locs ++ L) (cells + mc) (slots + ms) ∧ (∀ q ∈ L, free q.base) ∧ T'.heap = t.heap ∧ T'.vm = t.vm ∧ Qa st₀ (.returned v) t ∧
      Goes p e below T g T' { g with pc := g.pc + 3, stack := v.toList ++ rest }) ∨
    (∃ (q : Addr) (st₀ t T' : State) (L : List Loc) (E : String) (ce : Cell), st₀.heap = H ∧ Stand p l e R s m args below meth c T' (locs ++ L) (cells + mc) (slots + ms) ∧ (∀ z ∈ L, free z.base) ∧ T'.heap = t.heap ∧ T'.vm = t.vm ∧ XC E st₀ t ∧ t.heap[q]? = some ce ∧ ce.vm = .none ∧ s.vm.findClass E = some ce.cls ∧
      Steps p.tables e below (T.setTop g) ((T'.setTop { g with stack := rest }).pushFrame (.throwing q)))
def vx_X {S : Type} (px : S → Prop) (B : String → S → State → Prop) (A : Nat → Prop) : String → State → State → Prop := fun E st t => ∃ u : S, px u ∧ B E u t ∧ va_F A st t
section Runs
variable {p : Program} {l : Launch} {e : Env} {R : Room} {s : State} {m : MethodId} {args : Array Value} {below : List Frame} {meth : Method} {c : Code} {H : Heap} {locs : List Loc} {cells slots : Nat}
variable {y : MethodName} {bytes cc : ByteArray} {maxL nL mc ms n index : Nat} {ret : Option FieldType} {ws : List Cond} {rm : Room} {Pc : Array Value → State → Prop} {Qc : Array Value → State → Outcome → State → Prop} {XC : String → State → State → Prop} {free : Addr → Prop} {Ts : List Cond} {own C : String} {b : Addr} {As rest : List Value} {g : JFrame}
theorem vx_callBack (cb : CallB R s args own index y bytes maxL ret ws rm mc ms n) (hM : vx_Met l y ws rm Pc Qc XC mc ms free) (hbl : FrameBlind Pc) : vx_Back l R p e below s args y 3 8 (PreOf R mc ms Pc) (PostOf Qc mc ms free) (vx_Post XC mc ms free) := by
  obtain ⟨hrc, hrs, hfr, hlo, hws, hcw, -, hini, -⟩ := cb
  exact vx_back (bytes := bytes) (maxL := maxL) (ret := ret) hM hbl hrc hrs hfr hlo hws hcw (fun a' U hW => word_at hW (Or.inl (by first | rfl | simp [Cond.onTables, Cond.keeps, Cond.steady])) hini)
theorem vx_runV (S : CallFix p m c cc nL s args Ts own) (hM : vx_Met l y ws rm Pc Qc XC mc ms free) (cw : CallW R s args own C index y bytes maxL ret ws rm mc ms n) (hp : PreV s H C b Pc As)
    (hg : g.method = m) (hn : As.length = n) (hsize : g.locals.size = nL) (hstack : g.stack = As.reverse ++ .ref b :: rest) (hW : 2 * g.monitorRoom + (rest.map fun v => v.category).sum ≤ 8) (hdg : decode cc g.pc = .ok (.invokevirtual index, 3)) (hf : cells + mc ≤ R.cells ∧ slots + ms ≤ R.slots) :
    vx_Run p l e R s m args below meth c H locs cells slots mc ms g rest (Qc (Value.ref b :: As).toArray) XC free := by
  have hK : vx_Back l R p e below s args y 3 8 (PreOf R mc ms Pc) (PostOf Qc mc ms free) (vx_Post XC mc ms free) := vx_callBack cw.1 hM hp.1
  obtain ⟨⟨-, -, -, -, -, -, hcode, -, hy, hlen, hl⟩, hin, hse⟩ := cw
  obtain ⟨hx, hb, hml, ho, -⟩ := S
  obtain ⟨-, ⟨cellB, hcB, hoB, hclB⟩, hPc⟩ := hp
  intro T hT X
  rcases vx_callV X hx (C := C) (bytes := bytes) (maxL := maxL) (ret := ret) ho hl hin hse hcode hy hK (by rw [hT]; exact hcB) hoB hclB hg (hsize.trans hml.symm) (argsL := As) (rest := rest) (fun sig h => hn.trans (hlen sig h)) hstack hW (by rw [hb]; exact hdg)
    (fun vm₁ hW₁ => ⟨hf.1, hf.2, hPc (T.setVm vm₁) hT hW₁⟩) with ⟨v, vm₁, ⟨U', l2, c2, s2⟩, hW₁, X', ⟨g', mk, t, L, e1, e2, hq, h1, hL, h2, h3⟩, st⟩ | ⟨q, vm₁, ⟨U', l2, c2, s2⟩, hW₁, X', ⟨g', mk, t, L, E, ce, e1, e2, hq, hce, hcv, hcl, h1, hL, h2, h3⟩, st⟩
  · dsimp only [Pt.U, Pt.locs, Pt.cells, Pt.slots] at X' e1 e2 h1 h2 h3 st
    subst h1; subst h2; subst h3
    exact Or.inl ⟨v, (T.setVm vm₁).calling g' mk (Value.ref b :: As).toArray, t, U', L, hT, X', hL, e1, e2, hq, st⟩
  · dsimp only [Pt.U, Pt.locs, Pt.cells, Pt.slots] at X' e1 e2 h1 h2 h3 st hcl
    subst h1; subst h2; subst h3
    exact Or.inr ⟨q, (T.setVm vm₁).calling g' mk (Value.ref b :: As).toArray, t, U', L, E, ce, hT, X', hL, e1, e2, hq, hce, hcv, vx_cls hW₁ hcl, st⟩
theorem vx_runS (S : CallFix p m c cc nL s args Ts own) (hM : vx_Met l y ws rm Pc Qc XC mc ms free) (cw : CallB R s args own index y bytes maxL ret ws rm mc ms n ∧ (Cond.static y).before args s = true) (hp : PreS s H Pc As)
    (hg : g.method = m) (hn : As.length = n) (hsize : g.locals.size = nL) (hstack : g.stack = As.reverse ++ rest) (hW : 2 * g.monitorRoom + (rest.map fun v => v.category).sum ≤ 8) (hdg : decode cc g.pc = .ok (.invokestatic index, 3)) (hf : cells + mc ≤ R.cells ∧ slots + ms ≤ R.slots) :
    vx_Run p l e R s m args below meth c H locs cells slots mc ms g rest (Qc As.toArray) XC free := by
  have hK : vx_Back l R p e below s args y 3 8 (PreOf R mc ms Pc) (PostOf Qc mc ms free) (vx_Post XC mc ms free) := vx_callBack cw.1 hM hp.1
  obtain ⟨⟨-, -, -, -, -, -, hcode, hini, hy, hlen, hl⟩, hstt⟩ := cw
  obtain ⟨hx, hb, hml, ho, -⟩ := S
  intro T hT X
  rcases vx_callS X hx (bytes := bytes) (maxL := maxL) (ret := ret) ho hl hstt hini hcode hy hK hg (hsize.trans hml.symm) (argsL := As) (rest := rest) (fun sig h => hn.trans (hlen sig h)) hstack hW (by rw [hb]; exact hdg)
    (fun vm₁ hW₁ => ⟨hf.1, hf.2, hp.2 (T.setVm vm₁) hT hW₁⟩) with ⟨v, vm₁, ⟨U', l2, c2, s2⟩, hW₁, X', ⟨g', mk, t, L, e1, e2, hq, h1, hL, h2, h3⟩, st⟩ | ⟨q, vm₁, ⟨U', l2, c2, s2⟩, hW₁, X', ⟨g', mk, t, L, E, ce, e1, e2, hq, hce, hcv, hcl, h1, hL, h2, h3⟩, st⟩
  · dsimp only [Pt.U, Pt.locs, Pt.cells, Pt.slots] at X' e1 e2 h1 h2 h3 st
    subst h1; subst h2; subst h3
    exact Or.inl ⟨v, (T.setVm vm₁).calling g' mk As.toArray, t, U', L, hT, X', hL, e1, e2, hq, st⟩
  · dsimp only [Pt.U, Pt.locs, Pt.cells, Pt.slots] at X' e1 e2 h1 h2 h3 st hcl
    subst h1; subst h2; subst h3
    exact Or.inr ⟨q, (T.setVm vm₁).calling g' mk As.toArray, t, U', L, E, ce, hT, X', hL, e1, e2, hq, hce, hcv, vx_cls hW₁ hcl, st⟩
end Runs
section Rows
variable {p : Program} {l : Launch} {e : Env} {R : Room} {s : State} {m : MethodId} {args : Array Value} {below : List Frame} {meth : Method} {c : Code} {H : Heap} {locs : List Loc} {cells slots : Nat} {Q : State → Prop}
variable {mc ms : Nat} {free : Addr → Prop} {A0 A1 : Nat → Prop} {H0 : Heap} {a : Array Value} {pc : Nat} {ls : Array Slot} {st0 rest : List Value}
theorem vx_keep {st₀ t T' : State} {L : List Loc} (h0 : st₀.heap = H) (e1 : T'.heap = t.heap) (hS : va_S A0 H0 H locs) (hA : ∀ q, q < H.size → A1 q → A0 q) (hf : ∀ q, free q → A0 q) (hL : ∀ q ∈ L, free q.base) (hF : va_F A1 st₀ t) :
    H.size ≤ T'.heap.size ∧ (∀ q : Nat, q < H.size → ¬ A1 q → T'.heap[q]? = H[q]?) ∧ va_S A0 H0 T'.heap (locs ++ L) := by
  obtain ⟨hz, hk⟩ := hF
  rw [h0] at hz hk
  exact ⟨by rw [e1]; exact hz, fun q h1 h2 => by rw [e1]; exact hk q h1 h2,
    ⟨Nat.le_trans hS.1 (by rw [e1]; exact hz), fun q h1 h2 => by rw [e1, hk q (Nat.lt_of_lt_of_le h1 hS.1) (fun z => h2 (hA q (Nat.lt_of_lt_of_le h1 hS.1) z))]; exact hS.2.1 q h1 h2, fun q hq => by
      rcases List.mem_append.mp hq with h | h
      · exact hS.2.2 q h
      · exact hf _ (hL q h)⟩⟩
theorem vx_calli {S SX : Type} {post : Int32 → S → Prop} {px : SX → Prop} {B : S → State → Prop} {BX : String → SX → State → Prop} {AX : Nat → Prop} (hr : vx_Run p l e R s m args below meth c H locs cells slots mc ms (F0 m pc ls st0) rest (va_Qi post B A1 a) (vx_X px BX AX) free) (hS : va_S A0 H0 H locs) (hA : ∀ q, q < H.size → A1 q → A0 q) (hf : ∀ q, free q → A0 q) (hAX : ∀ q, q < H.size → AX q → A0 q)
    (kx : ∀ (E : String) (ce : Cell) (q9 : Addr) (u : SX) (t : State) (H1 : Heap) (locs1 : List Loc), t.heap = H1 → s.vm.Alike t.vm → px u → BX E u t → H.size ≤ H1.size → (∀ q : Nat, q < H.size → ¬ AX q → H1[q]? = H[q]?) → va_S A0 H0 H1 locs1 → H1[q9]? = some ce → ce.vm = .none → s.vm.findClass E = some ce.cls → vx_W p l e R s m args below meth c H1 locs1 (cells + mc) (slots + ms) Q (F0 m pc ls rest) q9)
    (kk : ∀ (r : Int32) (u : S) (t : State) (H1 : Heap) (locs1 : List Loc), t.heap = H1 → s.vm.Alike t.vm → post r u → B u t → H.size ≤ H1.size → (∀ q : Nat, q < H.size → ¬ A1 q → H1[q]? = H[q]?) → va_S A0 H0 H1 locs1 → W p l e R s m args below meth c H1 locs1 (cells + mc) (slots + ms) Q (F0 m (pc + 3) ls (.int r :: rest))) : W p l e R s m args below meth c H locs cells slots Q (F0 m pc ls st0) := by
  intro T hT X
  rcases hr T hT X with ⟨v, st₀, t, T', L, h0, X', hL, e1, e2, ⟨⟨r, u, hv, hp, hb⟩, hF⟩, st⟩ | ⟨q, st₀, t, T', L, E, ce, h0, X', hL, e1, e2, ⟨u, hp, hb, hF⟩, hce, hcv, hcl, st⟩
  · cases hv
    obtain ⟨k1, k2, k3⟩ := vx_keep h0 e1 hS hA hf hL hF
    obtain ⟨t2, a1, b1⟩ := kk r u t T'.heap (locs ++ L) e1.symm (by rw [← e2]; exact X'.warmed.alike) hp hb k1 k2 k3 T' rfl X'
    exact ⟨t2, st t2 a1, b1⟩
  · obtain ⟨k1, k2, k3⟩ := vx_keep h0 e1 hS hAX hf hL hF
    obtain ⟨t2, a1, b1⟩ := kx E ce q u t T'.heap (locs ++ L) e1.symm (by rw [← e2]; exact X'.warmed.alike) hp hb k1 k2 k3 (by rw [e1]; exact hce) hcv hcl T' rfl X'
    exact ⟨t2, st.trans a1, b1⟩
theorem vx_calll {S SX : Type} {post : Int64 → S → Prop} {px : SX → Prop} {B : S → State → Prop} {BX : String → SX → State → Prop} {AX : Nat → Prop} (hr : vx_Run p l e R s m args below meth c H locs cells slots mc ms (F0 m pc ls st0) rest (va_Ql post B A1 a) (vx_X px BX AX) free) (hS : va_S A0 H0 H locs) (hA : ∀ q, q < H.size → A1 q → A0 q) (hf : ∀ q, free q → A0 q) (hAX : ∀ q, q < H.size → AX q → A0 q)
    (kx : ∀ (E : String) (ce : Cell) (q9 : Addr) (u : SX) (t : State) (H1 : Heap) (locs1 : List Loc), t.heap = H1 → s.vm.Alike t.vm → px u → BX E u t → H.size ≤ H1.size → (∀ q : Nat, q < H.size → ¬ AX q → H1[q]? = H[q]?) → va_S A0 H0 H1 locs1 → H1[q9]? = some ce → ce.vm = .none → s.vm.findClass E = some ce.cls → vx_W p l e R s m args below meth c H1 locs1 (cells + mc) (slots + ms) Q (F0 m pc ls rest) q9)
    (kk : ∀ (r : Int64) (u : S) (t : State) (H1 : Heap) (locs1 : List Loc), t.heap = H1 → s.vm.Alike t.vm → post r u → B u t → H.size ≤ H1.size → (∀ q : Nat, q < H.size → ¬ A1 q → H1[q]? = H[q]?) → va_S A0 H0 H1 locs1 → W p l e R s m args below meth c H1 locs1 (cells + mc) (slots + ms) Q (F0 m (pc + 3) ls (.long r :: rest))) : W p l e R s m args below meth c H locs cells slots Q (F0 m pc ls st0) := by
  intro T hT X
  rcases hr T hT X with ⟨v, st₀, t, T', L, h0, X', hL, e1, e2, ⟨⟨r, u, hv, hp, hb⟩, hF⟩, st⟩ | ⟨q, st₀, t, T', L, E, ce, h0, X', hL, e1, e2, ⟨u, hp, hb, hF⟩, hce, hcv, hcl, st⟩
  · cases hv
    obtain ⟨k1, k2, k3⟩ := vx_keep h0 e1 hS hA hf hL hF
    obtain ⟨t2, a1, b1⟩ := kk r u t T'.heap (locs ++ L) e1.symm (by rw [← e2]; exact X'.warmed.alike) hp hb k1 k2 k3 T' rfl X'
    exact ⟨t2, st t2 a1, b1⟩
  · obtain ⟨k1, k2, k3⟩ := vx_keep h0 e1 hS hAX hf hL hF
    obtain ⟨t2, a1, b1⟩ := kx E ce q u t T'.heap (locs ++ L) e1.symm (by rw [← e2]; exact X'.warmed.alike) hp hb k1 k2 k3 (by rw [e1]; exact hce) hcv hcl T' rfl X'
    exact ⟨t2, st.trans a1, b1⟩
theorem vx_callf {S SX : Type} {post : UInt32 → S → Prop} {px : SX → Prop} {B : S → State → Prop} {BX : String → SX → State → Prop} {AX : Nat → Prop} (hr : vx_Run p l e R s m args below meth c H locs cells slots mc ms (F0 m pc ls st0) rest (va_Qf post B A1 a) (vx_X px BX AX) free) (hS : va_S A0 H0 H locs) (hA : ∀ q, q < H.size → A1 q → A0 q) (hf : ∀ q, free q → A0 q) (hAX : ∀ q, q < H.size → AX q → A0 q)
    (kx : ∀ (E : String) (ce : Cell) (q9 : Addr) (u : SX) (t : State) (H1 : Heap) (locs1 : List Loc), t.heap = H1 → s.vm.Alike t.vm → px u → BX E u t → H.size ≤ H1.size → (∀ q : Nat, q < H.size → ¬ AX q → H1[q]? = H[q]?) → va_S A0 H0 H1 locs1 → H1[q9]? = some ce → ce.vm = .none → s.vm.findClass E = some ce.cls → vx_W p l e R s m args below meth c H1 locs1 (cells + mc) (slots + ms) Q (F0 m pc ls rest) q9)
    (kk : ∀ (r : UInt32) (u : S) (t : State) (H1 : Heap) (locs1 : List Loc), t.heap = H1 → s.vm.Alike t.vm → post r u → B u t → H.size ≤ H1.size → (∀ q : Nat, q < H.size → ¬ A1 q → H1[q]? = H[q]?) → va_S A0 H0 H1 locs1 → W p l e R s m args below meth c H1 locs1 (cells + mc) (slots + ms) Q (F0 m (pc + 3) ls (.float r :: rest))) : W p l e R s m args below meth c H locs cells slots Q (F0 m pc ls st0) := by
  intro T hT X
  rcases hr T hT X with ⟨v, st₀, t, T', L, h0, X', hL, e1, e2, ⟨⟨r, u, hv, hp, hb⟩, hF⟩, st⟩ | ⟨q, st₀, t, T', L, E, ce, h0, X', hL, e1, e2, ⟨u, hp, hb, hF⟩, hce, hcv, hcl, st⟩
  · cases hv
    obtain ⟨k1, k2, k3⟩ := vx_keep h0 e1 hS hA hf hL hF
    obtain ⟨t2, a1, b1⟩ := kk r u t T'.heap (locs ++ L) e1.symm (by rw [← e2]; exact X'.warmed.alike) hp hb k1 k2 k3 T' rfl X'
    exact ⟨t2, st t2 a1, b1⟩
  · obtain ⟨k1, k2, k3⟩ := vx_keep h0 e1 hS hAX hf hL hF
    obtain ⟨t2, a1, b1⟩ := kx E ce q u t T'.heap (locs ++ L) e1.symm (by rw [← e2]; exact X'.warmed.alike) hp hb k1 k2 k3 (by rw [e1]; exact hce) hcv hcl T' rfl X'
    exact ⟨t2, st.trans a1, b1⟩
theorem vx_calld {S SX : Type} {post : UInt64 → S → Prop} {px : SX → Prop} {B : S → State → Prop} {BX : String → SX → State → Prop} {AX : Nat → Prop} (hr : vx_Run p l e R s m args below meth c H locs cells slots mc ms (F0 m pc ls st0) rest (va_Qd post B A1 a) (vx_X px BX AX) free) (hS : va_S A0 H0 H locs) (hA : ∀ q, q < H.size → A1 q → A0 q) (hf : ∀ q, free q → A0 q) (hAX : ∀ q, q < H.size → AX q → A0 q)
    (kx : ∀ (E : String) (ce : Cell) (q9 : Addr) (u : SX) (t : State) (H1 : Heap) (locs1 : List Loc), t.heap = H1 → s.vm.Alike t.vm → px u → BX E u t → H.size ≤ H1.size → (∀ q : Nat, q < H.size → ¬ AX q → H1[q]? = H[q]?) → va_S A0 H0 H1 locs1 → H1[q9]? = some ce → ce.vm = .none → s.vm.findClass E = some ce.cls → vx_W p l e R s m args below meth c H1 locs1 (cells + mc) (slots + ms) Q (F0 m pc ls rest) q9)
    (kk : ∀ (r : UInt64) (u : S) (t : State) (H1 : Heap) (locs1 : List Loc), t.heap = H1 → s.vm.Alike t.vm → post r u → B u t → H.size ≤ H1.size → (∀ q : Nat, q < H.size → ¬ A1 q → H1[q]? = H[q]?) → va_S A0 H0 H1 locs1 → W p l e R s m args below meth c H1 locs1 (cells + mc) (slots + ms) Q (F0 m (pc + 3) ls (.double r :: rest))) : W p l e R s m args below meth c H locs cells slots Q (F0 m pc ls st0) := by
  intro T hT X
  rcases hr T hT X with ⟨v, st₀, t, T', L, h0, X', hL, e1, e2, ⟨⟨r, u, hv, hp, hb⟩, hF⟩, st⟩ | ⟨q, st₀, t, T', L, E, ce, h0, X', hL, e1, e2, ⟨u, hp, hb, hF⟩, hce, hcv, hcl, st⟩
  · cases hv
    obtain ⟨k1, k2, k3⟩ := vx_keep h0 e1 hS hA hf hL hF
    obtain ⟨t2, a1, b1⟩ := kk r u t T'.heap (locs ++ L) e1.symm (by rw [← e2]; exact X'.warmed.alike) hp hb k1 k2 k3 T' rfl X'
    exact ⟨t2, st t2 a1, b1⟩
  · obtain ⟨k1, k2, k3⟩ := vx_keep h0 e1 hS hAX hf hL hF
    obtain ⟨t2, a1, b1⟩ := kx E ce q u t T'.heap (locs ++ L) e1.symm (by rw [← e2]; exact X'.warmed.alike) hp hb k1 k2 k3 (by rw [e1]; exact hce) hcv hcl T' rfl X'
    exact ⟨t2, st.trans a1, b1⟩
theorem vx_callv {S SX : Type} {post : S → Prop} {px : SX → Prop} {B : S → State → Prop} {BX : String → SX → State → Prop} {AX : Nat → Prop} (hr : vx_Run p l e R s m args below meth c H locs cells slots mc ms (F0 m pc ls st0) rest (va_Qv post B A1 a) (vx_X px BX AX) free) (hS : va_S A0 H0 H locs) (hA : ∀ q, q < H.size → A1 q → A0 q) (hf : ∀ q, free q → A0 q) (hAX : ∀ q, q < H.size → AX q → A0 q)
    (kx : ∀ (E : String) (ce : Cell) (q9 : Addr) (u : SX) (t : State) (H1 : Heap) (locs1 : List Loc), t.heap = H1 → s.vm.Alike t.vm → px u → BX E u t → H.size ≤ H1.size → (∀ q : Nat, q < H.size → ¬ AX q → H1[q]? = H[q]?) → va_S A0 H0 H1 locs1 → H1[q9]? = some ce → ce.vm = .none → s.vm.findClass E = some ce.cls → vx_W p l e R s m args below meth c H1 locs1 (cells + mc) (slots + ms) Q (F0 m pc ls rest) q9)
    (kk : ∀ (u : S) (t : State) (H1 : Heap) (locs1 : List Loc), t.heap = H1 → s.vm.Alike t.vm → post u → B u t → H.size ≤ H1.size → (∀ q : Nat, q < H.size → ¬ A1 q → H1[q]? = H[q]?) → va_S A0 H0 H1 locs1 → W p l e R s m args below meth c H1 locs1 (cells + mc) (slots + ms) Q (F0 m (pc + 3) ls (rest))) : W p l e R s m args below meth c H locs cells slots Q (F0 m pc ls st0) := by
  intro T hT X
  rcases hr T hT X with ⟨v, st₀, t, T', L, h0, X', hL, e1, e2, ⟨⟨u, hv, hp, hb⟩, hF⟩, st⟩ | ⟨q, st₀, t, T', L, E, ce, h0, X', hL, e1, e2, ⟨u, hp, hb, hF⟩, hce, hcv, hcl, st⟩
  · cases hv
    obtain ⟨k1, k2, k3⟩ := vx_keep h0 e1 hS hA hf hL hF
    obtain ⟨t2, a1, b1⟩ := kk u t T'.heap (locs ++ L) e1.symm (by rw [← e2]; exact X'.warmed.alike) hp hb k1 k2 k3 T' rfl X'
    exact ⟨t2, st t2 a1, b1⟩
  · obtain ⟨k1, k2, k3⟩ := vx_keep h0 e1 hS hAX hf hL hF
    obtain ⟨t2, a1, b1⟩ := kx E ce q u t T'.heap (locs ++ L) e1.symm (by rw [← e2]; exact X'.warmed.alike) hp hb k1 k2 k3 (by rw [e1]; exact hce) hcv hcl T' rfl X'
    exact ⟨t2, st.trans a1, b1⟩
/-- caught by the row x of this method's table; the rows ahead don't take it -/
theorem vx_catch {own name : String} {E : String} {ce : Cell} {q : Addr} (hown : s.vm.findClass own = some m.cls) (pre : List ExceptionTableEntry) (x : ExceptionTableEntry) (suf : List ExceptionTableEntry) (hsplit : c.exceptionTable.toList = pre ++ x :: suf)
    (hpass : ∀ z ∈ pre, covers z pc = false ∨ (z.catchType ≠ 0 ∧ ∃ nm : String, (Cond.classLink own z.catchType nm).before args s = true ∧ va_Nc E nm s)) (hx : covers x pc = true) (h0 : x.catchType ≠ 0)
    (hlink : (Cond.classLink own x.catchType name).before args s = true) (hcast : (Cond.castable E name).before args s = true) (hcell : H[q]? = some ce) (hv : ce.vm = .none) (hcl : s.vm.findClass E = some ce.cls)
    (kk : W p l e R s m args below meth c H locs cells slots Q (F0 m x.handlerPc ls [.ref q])) : vx_W p l e R s m args below meth c H locs cells slots Q (F0 m pc ls rest) q := by
  intro T hT X
  have hpl : e.platform.magicAccessors = ({} : Platform).magicAccessors := by rw [X.admits.platform]
  obtain ⟨c3, c4, hc3, hc4, hasg⟩ := Cond.castable_spec hcast
  cases Option.some.inj (hc3.symm.trans hcl)
  obtain ⟨c5, hc5, hcl5⟩ := Cond.classLink_spec hown hlink e.platform hpl
  cases Option.some.inj (hc4.symm.trans hc5)
  obtain ⟨vm', X', st⟩ := X.thenCaughtThrough q (g := F0 m pc ls rest) rfl (Steps.refl _) (by rw [hT]; exact hcell) (by rw [hv]; rfl) (by obtain ⟨k9, h9, -⟩ := Vm.findClass_spec hcl; exact ⟨k9, h9⟩) pre x suf hsplit
    (fun z hz => by
      rcases hpass z hz with h | ⟨hz0, nm, hl1, hn1⟩
      · exact Or.inl h
      · obtain ⟨c6, hc6, hcl6⟩ := Cond.classLink_spec hown hl1 e.platform hpl
        obtain ⟨a8, b8, h1, h2, h3⟩ := hn1
        cases Option.some.inj (h1.symm.trans hcl)
        cases Option.some.inj (h2.symm.trans hc6)
        exact Or.inr ⟨hz0, _, hcl6, h3⟩) hx (Or.inr ⟨h0, c4, hcl5, hasg⟩)
  obtain ⟨t, a1, b1⟩ := kk (T.setVm vm') hT X'
  exact ⟨t, st.trans a1, b1⟩
end Rows
section Ends
variable {p : Program} {l : Launch} {e : Env} {R : Room} {s : State} {m : MethodId} {args : Array Value} {below : List Frame} {meth : Method} {c : Code} {H : Heap} {locs : List Loc} {cells slots : Nat} {Q : State → Prop}
variable {mc ms : Nat} {free : Addr → Prop} {A0 A1 : Nat → Prop} {H0 : Heap} {a : Array Value} {ls : Array Slot} {st0 rest : List Value}
variable {Qc : Array Value → State → Outcome → State → Prop} {XC : String → State → State → Prop}
/-- what a body that may throw owes at its end -/
def vx_MQ (below : List Frame) (Qc : Array Value → State → Outcome → State → Prop) (XC : String → State → State → Prop) (a : Array Value) (s : State) (mc ms : Nat) (free : Addr → Prop) : State → Prop := fun t =>
  ∃ o, t.status = .running ∧ Ended t below o ∧ vx_Q Qc XC mc ms free a s o t
theorem vx_ret {g : JFrame} {mc ms : Nat} (k : W p l e R s m args below meth c H locs cells slots (MQ below Qc args s mc ms free) g) : W p l e R s m args below meth c H locs cells slots (vx_MQ below Qc XC args s mc ms free) g := by
  intro T hT X
  obtain ⟨t, a1, o, b1, b2, b3, b4⟩ := k T hT X
  exact ⟨t, a1, o, b1, b2, Or.inl ⟨b3, b4⟩⟩
/-- not caught here: it goes on to the caller -/
theorem vx_widen {g : JFrame} {q : Addr} {k n : Nat} (h1 : cells ≤ k) (h2 : slots ≤ n) (kk : vx_W p l e R s m args below meth c H locs k n Q g q) : vx_W p l e R s m args below meth c H locs cells slots Q g q := fun T hT X => kk T hT (stand_widen X h1 h2)
theorem vx_out {pc : Nat} {E : String} {ce : Cell} {q : Addr} {mc ms : Nat} (hout : ∀ x ∈ c.exceptionTable.toList, covers x pc = false) (hlocks : meth.locks = false) (hcell : H[q]? = some ce) (hv : ce.vm = .none) (hcl : s.vm.findClass E = some ce.cls)
    (hx : ∀ t : State, t.heap = H → s.vm.Alike t.vm → XC E s t) (hf : ∀ z ∈ locs, free z.base) (hc : cells ≤ mc) (hs : slots ≤ ms) :
    vx_W p l e R s m args below meth c H locs cells slots (vx_MQ below Qc XC args s mc ms free) (F0 m pc ls rest) q := by
  intro T hT X
  obtain ⟨st1, hrun, hend, hW, hsm⟩ := X.leaveThrown q (g := F0 m pc ls rest) rfl rfl rfl hout hlocks
  have hcell9 : (T.setFrames (.throwing q :: below)).heap[q]? = some ce := by
    show T.heap[q]? = some ce
    rw [hT]; exact hcell
  exact ⟨_, st1, .threw q, hrun, hend, Or.inr ⟨q, rfl, E, ce, locs, hx _ hT hW.alike, hcell9, hv, hcl, hW, hsm.mono hc hs, hf⟩⟩
theorem vx_frame {U : State} {k n : Nat} (h : s.sameButNew ({ U with vm := s.vm } : State) locs k n) : s.heap.size ≤ U.heap.size ∧ ∀ q : Nat, q < s.heap.size → (∀ z ∈ locs, z.base ≠ q) → U.heap[q]? = s.heap[q]? := by
  obtain ⟨-, h2, -, -, -, h6⟩ := h
  refine ⟨h2, fun q hq hz => ?_⟩
  obtain ⟨c9, e1, e2, e3, e4⟩ := h6 q _ (Array.getElem?_eq_getElem hq)
  have hs : c9.slots = (s.heap[q]).slots := Array.ext_getElem? fun i => e4 i fun hm => hz _ hm rfl
  have h9 : c9 = s.heap[q] := by
    rw [hs] at e2
    exact e2
  have e5 : U.heap[q]? = some c9 := e1
  rw [e5, h9, Array.getElem?_eq_getElem hq]
/-- the words of a throw but the four that speak of the heap -/
def vx_no (w : Cond) : Bool := decide (w ≠ .isRef (.static Bundle.tN "UNASSIGNED_STACK" Bundle.steD)) && decide (w ≠ .isRef (.static Bundle.tN "SUPPRESSED_SENTINEL" Bundle.listD)) && decide (w ≠ .laysStatic Bundle.tN "UNASSIGNED_STACK" Bundle.steD) && decide (w ≠ .laysStatic Bundle.tN "SUPPRESSED_SENTINEL" Bundle.listD)
def vx_at0 (own : String) (ic : Nat) (X : String) (names : List String) : List Cond := (Bundle.ownAtoms0 own ic X names).filter vx_no
def vx_atS (own : String) (ic : Nat) (X : String) (names : List String) : List Cond := (Bundle.ownAtoms own ic X names).filter vx_no
/-- a word that the tables alone decide, or a good one -/
def vx_ot (w : Cond) : Bool := w.onTables || goodWord w
theorem vx_ot_at {args a' : Array Value} {s U : State} {w : Cond} (hW : s.WarmedH U.vm) (hvm : s.vm = U.vm) (hg : vx_ot w = true) (h : w.before args s = true) : w.before a' U = true := by
  simp only [vx_ot, Bool.or_eq_true] at hg
  rcases hg with hg | hg
  · exact va_tabs hg hvm h
  · exact word_at hW (good_of_word hg) h
/-- a list's words: the good ones out of the method's own list, the others by premises of their own -/
theorem vx_hat {args : Array Value} {s : State} {L B : List Cond} (h1 : ∀ w ∈ L.filter goodWord, w.before args s = true) (h2 : ∀ w ∈ L.filter (fun w => !goodWord w), w ∈ B) (h3 : ∀ w ∈ B, w.before args s = true) : ∀ w ∈ L, w.before args s = true := by
  intro w hw
  by_cases g : goodWord w = true
  · exact h1 w (List.mem_filter.mpr ⟨hw, g⟩)
  · refine h3 w (h2 w (List.mem_filter.mpr ⟨hw, ?_⟩))
    show (!goodWord w) = true
    cases hgw : goodWord w
    · rfl
    · exact absurd hgw g
theorem vx_c {args : Array Value} {s : State} {w : Cond} {B : List Cond} (h : w.before args s = true) (t : ∀ w ∈ B, w.before args s = true) : ∀ w' ∈ w :: B, w'.before args s = true := fun w' h' => (List.mem_cons.mp h').elim (fun e => by rw [e]; exact h) (t w')
theorem vx_n {args : Array Value} {s : State} : ∀ w ∈ ([] : List Cond), w.before args s = true := fun _ h => nomatch h
theorem vx_own {args : Array Value} {s : State} {L : List Cond} (h1 : ∀ w ∈ L.filter vx_no, w.before args s = true)
    (hU : (Cond.isRef (.static Bundle.tN "UNASSIGNED_STACK" Bundle.steD)).before args s = true) (hN : (Cond.isRef (.static Bundle.tN "SUPPRESSED_SENTINEL" Bundle.listD)).before args s = true)
    (lU : (Cond.laysStatic Bundle.tN "UNASSIGNED_STACK" Bundle.steD).before args s = true) (lN : (Cond.laysStatic Bundle.tN "SUPPRESSED_SENTINEL" Bundle.listD).before args s = true) : ∀ w ∈ L, w.before args s = true := by
  intro w hw
  by_cases e1 : w = .isRef (.static Bundle.tN "UNASSIGNED_STACK" Bundle.steD)
  · rw [e1]; exact hU
  · by_cases e2 : w = .isRef (.static Bundle.tN "SUPPRESSED_SENTINEL" Bundle.listD)
    · rw [e2]; exact hN
    · by_cases e3 : w = .laysStatic Bundle.tN "UNASSIGNED_STACK" Bundle.steD
      · rw [e3]; exact lU
      · by_cases e4 : w = .laysStatic Bundle.tN "SUPPRESSED_SENTINEL" Bundle.listD
        · rw [e4]; exact lN
        · exact h1 w (List.mem_filter.mpr ⟨hw, by unfold vx_no; rw [decide_eq_true e1, decide_eq_true e2, decide_eq_true e3, decide_eq_true e4]; rfl⟩)
/-- where a static field lies, its class's statics cell in H -/
def vx_L (C n d : String) (A : Nat → Prop) (U : State) (H : Heap) : Prop := ∃ (c : ClassId) (k : Class) (i : Nat) (f : Field) (a : Nat) (cell : Cell), U.vm.findClass C = some c ∧ U.fieldFound? C n d = some (c, k, i, f) ∧ f.isStatic = true ∧ k.statics = some a ∧ H[a]? = some cell ∧ cell.vm.isStatics = true ∧ cell.cls = c ∧ f.slot < cell.slots.size ∧ k.staticTypes[f.slot]? = some f.type ∧ ¬ A a
theorem vx_L.moved {C n d : String} {A : Nat → Prop} {u U : State} {H : Heap} (hvm : u.vm.Alike U.vm) (h : vx_L C n d A u H) : vx_L C n d A U H := by
  obtain ⟨c, k, i, f, a, cell, h1, h2, h3, h4, h5, h6, h7, h8, h9, h10⟩ := h
  obtain ⟨k', hi', he⟩ := State.fieldFound?_setVm hvm h2
  exact ⟨c, k', i, f, a, cell, by rw [hvm.findClass]; exact h1, hi', h3, by rw [he]; exact h4, h5, h6, h7, h8, by rw [he]; exact h9, h10⟩
theorem vx_L.kept {C n d : String} {A : Nat → Prop} {U : State} {H H1 : Heap} (h : vx_L C n d A U H) (hq : ∀ a : Nat, a < H.size → ¬ A a → H1[a]? = H[a]?) : vx_L C n d A U H1 := by
  obtain ⟨c, k, i, f, a, cell, h1, h2, h3, h4, h5, h6, h7, h8, h9, h10⟩ := h
  exact ⟨c, k, i, f, a, cell, h1, h2, h3, h4, by rw [hq a (Array.getElem?_eq_some_iff.mp h5).1 h10]; exact h5, h6, h7, h8, h9, h10⟩
theorem vx_L.narrow {C n d : String} {A B : Nat → Prop} {U : State} {H : Heap} (h : vx_L C n d A U H) (hAB : ∀ q, B q → A q) : vx_L C n d B U H := by
  obtain ⟨c, k, i, f, a, cell, h1, h2, h3, h4, h5, h6, h7, h8, h9, h10⟩ := h
  exact ⟨c, k, i, f, a, cell, h1, h2, h3, h4, h5, h6, h7, h8, h9, fun z => h10 (hAB _ z)⟩
theorem vx_L.word {C n d : String} {A : Nat → Prop} {s : State} {args : Array Value} (h : vx_L C n d A s s.heap) : (Cond.laysStatic C n d).before args s = true := by
  obtain ⟨c, k, i, f, a, cell, h1, h2, h3, h4, h5, h6, h7, h8, h9, -⟩ := h
  show (Cond.laysStatic C n d).holds args s none s [] = true
  exact Cond.laysStatic_of h1 h2 h3 h4 h5 h6 h7 h8 h9
/-- .. and what it holds: null or some reference -/
def vx_Zq (C n d : String) (A : Nat → Prop) (U : State) (H : Heap) : Prop := va_Zq C n d A U H ∧ vx_L C n d A U H
theorem vx_Zq.moved {C n d : String} {A : Nat → Prop} {u U : State} {H : Heap} (hvm : u.vm.Alike U.vm) (h : vx_Zq C n d A u H) : vx_Zq C n d A U H := ⟨va_Zq.moved hvm h.1, vx_L.moved hvm h.2⟩
theorem vx_Zq.kept {C n d : String} {A : Nat → Prop} {U : State} {H H1 : Heap} (h : vx_Zq C n d A U H) (hq : ∀ a : Nat, a < H.size → ¬ A a → H1[a]? = H[a]?) : vx_Zq C n d A U H1 := ⟨va_Zq.kept h.1 hq, vx_L.kept h.2 hq⟩
theorem vx_Zq.narrow {C n d : String} {A B : Nat → Prop} {U : State} {H : Heap} (h : vx_Zq C n d A U H) (hAB : ∀ q, B q → A q) : vx_Zq C n d B U H := ⟨va_Zq.narrow h.1 hAB, vx_L.narrow h.2 hAB⟩
theorem vx_Zqof {args : Array Value} {s : State} {C n d : String} {A : Nat → Prop} (hl : (Cond.laysStatic C n d).before args s = true) (hini : (Cond.initialized C).before args s = true) (h : (Cond.isRef (.static C n d)).before args s = true) (hA : ∀ a : Nat, a < s.heap.size → ¬ A a) : vx_Zq C n d A s s.heap := by
  refine ⟨va_Zqof hl hini h hA, ?_⟩
  obtain ⟨c, k, i, f, a, cell, h1, h2, h3, h4, h5, h6, h7, h8, h9⟩ := Cond.laysStatic_spec hl
  exact ⟨c, k, i, f, a, cell, h1, h2, h3, h4, h5, h6, h7, h8, h9, hA a (Array.getElem?_eq_some_iff.mp h5).1⟩
theorem vx_isRef {C n d : String} {v : Value} {A : Nat → Prop} {s : State} {args : Array Value} (h : va_Z C n d v A s s.heap) (hv : v.isRef = true) : (Cond.isRef (.static C n d)).before args s = true := by
  obtain ⟨cf, kf, fi, f, a, cell, h1, h2, h3, h4, h5, h6, h7, -⟩ := h
  have he : (Term.static C n d).eval args s none [] s = some v := by
    simp [Term.eval, State.fieldNamed?, h1, h2, h4, h5, h6, h7]
  simp only [Cond.before, Cond.holds, Cond.value, he]
  cases v <;> simp_all [Value.isRef]
theorem vx_isRefq {C n d : String} {A : Nat → Prop} {s : State} {args : Array Value} (h : va_Zq C n d A s s.heap) : (Cond.isRef (.static C n d)).before args s = true := by
  rcases h with h | ⟨t, h⟩
  · exact vx_isRef h rfl
  · exact vx_isRef h rfl
/-- the same frame, seen from here: as if the method were called anew in this heap -/
theorem vx_rebase {T : State} (X : Stand p l e R s m args below meth c T locs cells slots) {R' : Room} (hf : R'.frames ≤ R.frames) (hl : R'.locals ≤ R.locals) (hc : cells + R'.cells ≤ R.cells) (hs : slots + R'.slots ≤ R.slots) :
    Stand p l e R' ((T.setVm s.vm).setFrames (.invoking m args :: below)) m args below meth c T [] 0 0 := by
  have htop : (T.setVm s.vm).topJava?.isSome := X.here.top
  have hF : ((T.setVm s.vm).setFrames (.invoking m args :: below)).frames = .invoking m args :: below := State.frames_setFrames _ (State.cur_lt_of_top htop)
  obtain ⟨g₀, hg0⟩ := Option.isSome_iff_exists.mp htop
  obtain ⟨r, hr⟩ := State.topJava?_eq_some.mp hg0
  have hl9 : e.platform.stackLimits (T.setVm s.vm).me = e.platform.stackLimits s.me := X.limits
  have hb9 : (T.setVm s.vm).me.stackBytes = s.me.stackBytes := X.bytes
  refine ⟨X.admits, X.cas, X.clock, hF, ?_, X.hears, X.method, X.code, X.here, X.tail, X.warmed, ?_, ?_, ?_⟩
  · have h := X.room
    have hU : ((T.setVm s.vm).setFrames (.invoking m args :: below)).localsInUse = s.localsInUse := by
      rw [State.localsInUse_invoking hF (meth := meth) (c := c) X.method X.code, State.localsInUse_invoking X.frames X.method X.code]
    simp only [State.hasRoom, Bool.and_eq_true, decide_eq_true_eq] at h ⊢
    obtain ⟨⟨⟨⟨h1, h2, h3, h4, h5, h6⟩, h7⟩, h8⟩, h9⟩ := h
    rw [X.frames, List.length_cons] at h2 h3
    have q1 := X.heapSize
    have q2 := X.used
    simp only [hF, hU, List.length_cons, State.stackLimits_setFrames, State.stackBytes_setFrames, hl9, hb9]
    refine ⟨⟨⟨⟨by omega, by omega, by omega, by omega, by omega, h6⟩, ?_⟩, ?_⟩, X.book⟩
    · show T.heap.size + R'.cells ≤ e.platform.maxCells
      omega
    · show T.slotsUsed + R'.slots ≤ e.platform.maxSlots
      omega
  · rw [State.stackLimits_setFrames]; rfl
  · rw [State.stackBytes_setFrames]; rfl
  · refine ⟨?_, Nat.le_refl _, Nat.le_refl _, ?_, ?_, fun a c9 h9 => ⟨c9, h9, rfl, rfl, fun _ _ => rfl⟩⟩
    · obtain ⟨t, ht, -⟩ := State.frames_cons hr
      show T.setVm s.vm = { ((T.setVm s.vm).setFrames (.invoking m args :: below)).setFrames (T.setVm s.vm).frames with heap := T.heap, slotsUsed := T.slotsUsed }
      rw [State.setFrames_setFrames, State.setFrames_self ht]
      rfl
    · show T.slotsUsed = T.slotsUsed + ((T.heap.toList.drop T.heap.size).map (·.slots.size)).sum
      rw [List.drop_eq_nil_of_le (Nat.le_of_eq Array.length_toList)]
      rfl
    · show ((T.heap.toList.drop T.heap.size).map (·.slots.size)).sum ≤ 0
      rw [List.drop_eq_nil_of_le (Nat.le_of_eq Array.length_toList)]
      exact Nat.le_refl _
/-- 'throw new E()': new; dup; invokespecial; athrow -/
theorem vx_throw0 {cc : ByteArray} {pc : Nat} (hexec : p.tables.exec = Jvm.exec) (hb : c.code = cc) (hl : l.stackTraces = false) {own cls : String} {names : List String} {ik ic mc ms : Nat} {A : Nat → Prop}
    (hown : s.vm.findClass own = some m.cls) (hcls : Bundle.fit cls = true) (hnames : ∀ n ∈ names, Bundle.fit n = true)
    (hk : (Cond.classLink own ik cls).before args s = true) (hini : (Cond.initialized cls).before args s = true) (hat : ∀ w ∈ vx_at0 own ic cls names, w.before args s = true)
    (hgood : ∀ w ∈ Cond.classLink own ik cls :: Cond.initialized cls :: vx_at0 own ic cls names, vx_ot w = true)
    (hU : vx_Zq Bundle.tN "UNASSIGNED_STACK" Bundle.steD A s s.heap) (hN : vx_Zq Bundle.tN "SUPPRESSED_SENTINEL" Bundle.listD A s s.heap) (hS : va_S A s.heap H locs) (hsize : ls.size = c.maxLocals)
    (d0 : decode cc pc = .ok (.new ik, 3)) (d3 : decode cc (pc + 3) = .ok (.dup, 1)) (d4 : decode cc (pc + 4) = .ok (.invokespecial ic, 3)) (d7 : decode cc (pc + 7) = .ok (.athrow, 1))
    (hout : ∀ x ∈ c.exceptionTable.toList, covers x (pc + 7) = false)
    (hRframes : names.length + 3 < R.frames) (hRlocals : (rest.map fun v => v.category).sum + (13 * (names.length + 1) + 42) ≤ R.locals) (hRcells : cells + 1 ≤ R.cells) (hRslots : slots + 6 ≤ R.slots) (hlocks : meth.locks = false)
    (hx : ∀ t : State, s.vm.Alike t.vm → H.size ≤ t.heap.size → (∀ q : Nat, q < H.size → t.heap[q]? = H[q]?) → XC cls s t)
    (hf : ∀ z ∈ locs, free z.base) (hc : cells + 1 ≤ mc) (hs : slots + 6 ≤ ms) :
    W p l e R s m args below meth c H locs cells slots (vx_MQ below Qc XC args s mc ms free) (F0 m pc ls rest) := by
  intro T hT X
  have htr : e.platform.stackTraces = false := (show e.platform.stackTraces = l.stackTraces by rw [X.admits.platform]).trans hl
  have Y := vx_rebase X (R' := { frames := R.frames, locals := R.locals, cells := 1, slots := 6 }) (Nat.le_refl _) (Nat.le_refl _) hRcells hRslots
  obtain ⟨s', hA⟩ : ∃ z, z = (T.setVm s.vm).setFrames (.invoking m args :: below) := ⟨_, rfl⟩
  rw [← hA] at Y
  have hvm : s'.vm = s.vm := by rw [hA]; rfl
  have hhp : s'.heap = H := by rw [hA]; exact hT
  have hW0 : s.WarmedH s'.vm := by rw [hvm]; exact State.WarmedH.refl s
  have hat' : ∀ w ∈ vx_at0 own ic cls names, w.before args s' = true := fun w hw => vx_ot_at hW0 hvm.symm (hgood w (List.mem_cons_of_mem _ (List.mem_cons_of_mem _ hw))) (hat w hw)
  have hk' : (Cond.classLink own ik cls).before args s' = true := vx_ot_at hW0 hvm.symm (hgood _ List.mem_cons_self) hk
  have hini' : (Cond.initialized cls).before args s' = true := vx_ot_at hW0 hvm.symm (hgood _ (List.mem_cons_of_mem _ List.mem_cons_self)) hini
  have hU' : vx_Zq Bundle.tN "UNASSIGNED_STACK" Bundle.steD A s' s'.heap := by rw [hhp]; exact vx_Zq.moved hW0.alike (hU.kept hS.2.1)
  have hN' : vx_Zq Bundle.tN "SUPPRESSED_SENTINEL" Bundle.listD A s' s'.heap := by rw [hhp]; exact vx_Zq.moved hW0.alike (hN.kept hS.2.1)
  have h : ∀ w ∈ Bundle.ownAtoms0 own ic cls names, w.before args s' = true := vx_own hat' (vx_isRefq hU'.1) (vx_isRefq hN'.1) hU'.2.word hN'.2.word
  have hown' : s'.vm.findClass own = some m.cls := by rw [hvm]; exact hown
  have hins : (Cond.instantiable cls 6).before args s' = true := h _ (by simp [Bundle.ownAtoms0])
  obtain ⟨vm₁, cX, kX, hfX, hkX, -, -, X₁, st1⟩ := Y.newCold hexec (own := own) (C := cls) (index := ik) (n := 6) hown' hk' hins hini'
    (g := F0 m pc ls rest) rfl (by rw [hb]; exact d0) (Nat.le_refl _) (Nat.le_refl _)
  generalize hT1 : (T.setVm vm₁).pushCell { cls := cX, slots := kX.instanceTypes.map defaultValue, vm := .none } = T1 at X₁ st1
  have hcat : (Value.ref T.heap.size).category = 1 := rfl
  have hcellA : T1.heap[T.heap.size]? = some (freshCell cX kX) := by rw [← hT1]; exact State.heap_pushCell_size _ _
  have d3' : decode c.code (pc + 3) = .ok (.dup, 1) := by rw [hb]; exact d3
  obtain ⟨U, hsteps, hrun, hend, hW, hsame, ce, hce, hO⟩ := X₁.ctorThrow0 hexec htr (own := own) (cls := cls) (names := names) (ic := ic) hown' hcls hnames h (fun x hx => nomatch hx) hfX hkX hcellA (by rw [hhp, hT]; exact Nat.le_refl _)
    (g := { method := m, pc := pc + 4, locals := ls, stack := .ref T.heap.size :: .ref T.heap.size :: rest, locked := none }) rfl hsize rfl rfl (rest := rest) rfl
    (by rw [hb]; exact d4) (by rw [hb]; exact d7) hout hRframes (by simp only [List.map_cons, List.sum_cons, hcat]; omega) hlocks
  obtain ⟨f1, f2⟩ := vx_frame hsame
  rw [hhp] at f1 f2
  have hWs : s.WarmedH U.vm := State.WarmedH.trans hW0 hW
  have hcl : s.vm.findClass cls = some ce.cls := by
    have h9 := hO.cls
    rw [hvm] at h9
    exact h9
  have hall : s.sameButNew ({ U with vm := s.vm } : State) locs mc ms := by
    subst hA
    obtain ⟨e1, e2⟩ := hsame
    rw [State.setFrames_setFrames] at e1
    have h2 : (T.setVm s.vm).sameButNew ({ U with vm := s.vm } : State) [] (0 + 1) (0 + 6) := ⟨e1, e2⟩
    have h3 := X.same.trans h2
    rw [List.append_nil] at h3
    exact h3.mono hc hs
  refine ⟨U, ?_, .threw T.heap.size, hrun, hend, Or.inr ⟨T.heap.size, rfl, cls, ce, locs, hx U hWs.alike f1 (fun q hq => f2 q hq (fun z hz => nomatch hz)), hce, hO.vm, hcl, hWs, hall, hf⟩⟩
  refine st1 _ ?_
  show Steps p.tables e below (T1.setTop { method := m, pc := pc + 3, locals := ls, stack := .ref T.heap.size :: rest, locked := none }) _
  jvm_step X₁.here [X₁.here.top, hexec, d3', Value.category]
  exact hsteps
/-- 'throw new E("text")': new; dup; ldc; invokespecial; athrow -/
theorem vx_throwS {cc : ByteArray} {pc : Nat} (hexec : p.tables.exec = Jvm.exec) (hb : c.code = cc) (hl : l.stackTraces = false) {own cls text : String} {names : List String} {ik is ic mc ms sa : Nat} {A : Nat → Prop}
    (hown : s.vm.findClass own = some m.cls) (hcls : Bundle.fit cls = true) (hnames : ∀ n ∈ names, Bundle.fit n = true)
    (hk : (Cond.classLink own ik cls).before args s = true) (hini : (Cond.initialized cls).before args s = true) (hstr : vk_R own is text sa s) (hat : ∀ w ∈ vx_atS own ic cls names, w.before args s = true)
    (hgood : ∀ w ∈ Cond.classLink own ik cls :: Cond.initialized cls :: vx_atS own ic cls names, vx_ot w = true)
    (hU : vx_Zq Bundle.tN "UNASSIGNED_STACK" Bundle.steD A s s.heap) (hN : vx_Zq Bundle.tN "SUPPRESSED_SENTINEL" Bundle.listD A s s.heap) (hS : va_S A s.heap H locs) (hsize : ls.size = c.maxLocals)
    (d0 : decode cc pc = .ok (.new ik, 3)) (d3 : decode cc (pc + 3) = .ok (.dup, 1)) (d4 : decode cc (pc + 4) = .ok (.ldc is, 2)) (d6 : decode cc (pc + 6) = .ok (.invokespecial ic, 3)) (d9 : decode cc (pc + 9) = .ok (.athrow, 1))
    (hout : ∀ x ∈ c.exceptionTable.toList, covers x (pc + 9) = false)
    (hRframes : names.length + 3 < R.frames) (hRlocals : (rest.map fun v => v.category).sum + (13 * (names.length + 1) + 43) ≤ R.locals) (hRcells : cells + 1 ≤ R.cells) (hRslots : slots + 6 ≤ R.slots) (hlocks : meth.locks = false)
    (hx : ∀ t : State, s.vm.Alike t.vm → H.size ≤ t.heap.size → (∀ q : Nat, q < H.size → t.heap[q]? = H[q]?) → XC cls s t)
    (hf : ∀ z ∈ locs, free z.base) (hc : cells + 1 ≤ mc) (hs : slots + 6 ≤ ms) :
    W p l e R s m args below meth c H locs cells slots (vx_MQ below Qc XC args s mc ms free) (F0 m pc ls rest) := by
  intro T hT X
  have htr : e.platform.stackTraces = false := (show e.platform.stackTraces = l.stackTraces by rw [X.admits.platform]).trans hl
  have Y := vx_rebase X (R' := { frames := R.frames, locals := R.locals, cells := 1, slots := 6 }) (Nat.le_refl _) (Nat.le_refl _) hRcells hRslots
  obtain ⟨s', hA⟩ : ∃ z, z = (T.setVm s.vm).setFrames (.invoking m args :: below) := ⟨_, rfl⟩
  rw [← hA] at Y
  have hvm : s'.vm = s.vm := by rw [hA]; rfl
  have hhp : s'.heap = H := by rw [hA]; exact hT
  have hW0 : s.WarmedH s'.vm := by rw [hvm]; exact State.WarmedH.refl s
  have hat' : ∀ w ∈ vx_atS own ic cls names, w.before args s' = true := fun w hw => vx_ot_at hW0 hvm.symm (hgood w (List.mem_cons_of_mem _ (List.mem_cons_of_mem _ hw))) (hat w hw)
  have hk' : (Cond.classLink own ik cls).before args s' = true := vx_ot_at hW0 hvm.symm (hgood _ List.mem_cons_self) hk
  have hini' : (Cond.initialized cls).before args s' = true := vx_ot_at hW0 hvm.symm (hgood _ (List.mem_cons_of_mem _ List.mem_cons_self)) hini
  have hU' : vx_Zq Bundle.tN "UNASSIGNED_STACK" Bundle.steD A s' s'.heap := by rw [hhp]; exact vx_Zq.moved hW0.alike (hU.kept hS.2.1)
  have hN' : vx_Zq Bundle.tN "SUPPRESSED_SENTINEL" Bundle.listD A s' s'.heap := by rw [hhp]; exact vx_Zq.moved hW0.alike (hN.kept hS.2.1)
  have h : ∀ w ∈ Bundle.ownAtoms own ic cls names, w.before args s' = true := vx_own hat' (vx_isRefq hU'.1) (vx_isRefq hN'.1) hU'.2.word hN'.2.word
  have hown' : s'.vm.findClass own = some m.cls := by rw [hvm]; exact hown
  have hins : (Cond.instantiable cls 6).before args s' = true := h _ (by simp [Bundle.ownAtoms])
  obtain ⟨vm₁, cX, kX, hfX, hkX, -, -, X₁, st1⟩ := Y.newCold hexec (own := own) (C := cls) (index := ik) (n := 6) hown' hk' hins hini'
    (g := F0 m pc ls rest) rfl (by rw [hb]; exact d0) (Nat.le_refl _) (Nat.le_refl _)
  generalize hT1 : (T.setVm vm₁).pushCell { cls := cX, slots := kX.instanceTypes.map defaultValue, vm := .none } = T1 at X₁ st1
  have hcat : (Value.ref T.heap.size).category = 1 := rfl
  have hcellA : T1.heap[T.heap.size]? = some (freshCell cX kX) := by rw [← hT1]; exact State.heap_pushCell_size _ _
  have d3' : decode c.code (pc + 3) = .ok (.dup, 1) := by rw [hb]; exact d3
  have d4' : decode c.code (pc + 4) = .ok (.ldc is, 2) := by rw [hb]; exact d4
  have hstr' : vk_R own is text sa s' := vk_R.warm hW0 hstr
  obtain ⟨U, hsteps, hrun, hend, hW, hsame, ce, hce, hO⟩ := X₁.ctorThrowS hexec htr (own := own) (cls := cls) (names := names) (ic := ic) hown' hcls hnames h (fun x hx => nomatch hx) hfX hkX hcellA (by rw [hhp, hT]; exact Nat.le_refl _) (msg := .ref sa) rfl
    (g := { method := m, pc := pc + 6, locals := ls, stack := .ref sa :: .ref T.heap.size :: .ref T.heap.size :: rest, locked := none }) rfl hsize rfl rfl (rest := rest) rfl
    (by rw [hb]; exact d6) (by rw [hb]; exact d9) hout hRframes (by simp only [List.map_cons, List.sum_cons, hcat]; omega) hlocks
  obtain ⟨f1, f2⟩ := vx_frame hsame
  rw [hhp] at f1 f2
  have hWs : s.WarmedH U.vm := State.WarmedH.trans hW0 hW
  have hcl : s.vm.findClass cls = some ce.cls := by
    have h9 := hO.cls
    rw [hvm] at h9
    exact h9
  have hall : s.sameButNew ({ U with vm := s.vm } : State) locs mc ms := by
    subst hA
    obtain ⟨e1, e2⟩ := hsame
    rw [State.setFrames_setFrames] at e1
    have h2 : (T.setVm s.vm).sameButNew ({ U with vm := s.vm } : State) [] (0 + 1) (0 + 6) := ⟨e1, e2⟩
    have h3 := X.same.trans h2
    rw [List.append_nil] at h3
    exact h3.mono hc hs
  refine ⟨U, ?_, .threw T.heap.size, hrun, hend, Or.inr ⟨T.heap.size, rfl, cls, ce, locs, hx U hWs.alike f1 (fun q hq => f2 q hq (fun z hz => nomatch hz)), hce, hO.vm, hcl, hWs, hall, hf⟩⟩
  refine st1 _ ?_
  show Steps p.tables e below (T1.setTop { method := m, pc := pc + 3, locals := ls, stack := .ref T.heap.size :: rest, locked := none }) _
  jvm_step X₁.here [X₁.here.top, hexec, d3', Value.category]
  exact X₁.ldcString hexec (own := own) (text := text) (index := is) (a := sa) hown' hstr'.1 hstr'.2
    (g := { method := m, pc := pc + 4, locals := ls, stack := .ref T.heap.size :: .ref T.heap.size :: rest, locked := none }) rfl d4' _ hsteps
/-- 'throw new E("text")', the text by a wide index -/
theorem vx_throwSW {cc : ByteArray} {pc : Nat} (hexec : p.tables.exec = Jvm.exec) (hb : c.code = cc) (hl : l.stackTraces = false) {own cls text : String} {names : List String} {ik is ic mc ms sa : Nat} {A : Nat → Prop}
    (hown : s.vm.findClass own = some m.cls) (hcls : Bundle.fit cls = true) (hnames : ∀ n ∈ names, Bundle.fit n = true)
    (hk : (Cond.classLink own ik cls).before args s = true) (hini : (Cond.initialized cls).before args s = true) (hstr : vk_R own is text sa s) (hat : ∀ w ∈ vx_atS own ic cls names, w.before args s = true)
    (hgood : ∀ w ∈ Cond.classLink own ik cls :: Cond.initialized cls :: vx_atS own ic cls names, vx_ot w = true)
    (hU : vx_Zq Bundle.tN "UNASSIGNED_STACK" Bundle.steD A s s.heap) (hN : vx_Zq Bundle.tN "SUPPRESSED_SENTINEL" Bundle.listD A s s.heap) (hS : va_S A s.heap H locs) (hsize : ls.size = c.maxLocals)
    (d0 : decode cc pc = .ok (.new ik, 3)) (d3 : decode cc (pc + 3) = .ok (.dup, 1)) (d4 : decode cc (pc + 4) = .ok (.ldc_w is, 3)) (d7 : decode cc (pc + 7) = .ok (.invokespecial ic, 3)) (d10 : decode cc (pc + 10) = .ok (.athrow, 1))
    (hout : ∀ x ∈ c.exceptionTable.toList, covers x (pc + 10) = false)
    (hRframes : names.length + 3 < R.frames) (hRlocals : (rest.map fun v => v.category).sum + (13 * (names.length + 1) + 43) ≤ R.locals) (hRcells : cells + 1 ≤ R.cells) (hRslots : slots + 6 ≤ R.slots) (hlocks : meth.locks = false)
    (hx : ∀ t : State, s.vm.Alike t.vm → H.size ≤ t.heap.size → (∀ q : Nat, q < H.size → t.heap[q]? = H[q]?) → XC cls s t)
    (hf : ∀ z ∈ locs, free z.base) (hc : cells + 1 ≤ mc) (hs : slots + 6 ≤ ms) :
    W p l e R s m args below meth c H locs cells slots (vx_MQ below Qc XC args s mc ms free) (F0 m pc ls rest) := by
  intro T hT X
  have htr : e.platform.stackTraces = false := (show e.platform.stackTraces = l.stackTraces by rw [X.admits.platform]).trans hl
  have Y := vx_rebase X (R' := { frames := R.frames, locals := R.locals, cells := 1, slots := 6 }) (Nat.le_refl _) (Nat.le_refl _) hRcells hRslots
  obtain ⟨s', hA⟩ : ∃ z, z = (T.setVm s.vm).setFrames (.invoking m args :: below) := ⟨_, rfl⟩
  rw [← hA] at Y
  have hvm : s'.vm = s.vm := by rw [hA]; rfl
  have hhp : s'.heap = H := by rw [hA]; exact hT
  have hW0 : s.WarmedH s'.vm := by rw [hvm]; exact State.WarmedH.refl s
  have hat' : ∀ w ∈ vx_atS own ic cls names, w.before args s' = true := fun w hw => vx_ot_at hW0 hvm.symm (hgood w (List.mem_cons_of_mem _ (List.mem_cons_of_mem _ hw))) (hat w hw)
  have hk' : (Cond.classLink own ik cls).before args s' = true := vx_ot_at hW0 hvm.symm (hgood _ List.mem_cons_self) hk
  have hini' : (Cond.initialized cls).before args s' = true := vx_ot_at hW0 hvm.symm (hgood _ (List.mem_cons_of_mem _ List.mem_cons_self)) hini
  have hU' : vx_Zq Bundle.tN "UNASSIGNED_STACK" Bundle.steD A s' s'.heap := by rw [hhp]; exact vx_Zq.moved hW0.alike (hU.kept hS.2.1)
  have hN' : vx_Zq Bundle.tN "SUPPRESSED_SENTINEL" Bundle.listD A s' s'.heap := by rw [hhp]; exact vx_Zq.moved hW0.alike (hN.kept hS.2.1)
  have h : ∀ w ∈ Bundle.ownAtoms own ic cls names, w.before args s' = true := vx_own hat' (vx_isRefq hU'.1) (vx_isRefq hN'.1) hU'.2.word hN'.2.word
  have hown' : s'.vm.findClass own = some m.cls := by rw [hvm]; exact hown
  have hins : (Cond.instantiable cls 6).before args s' = true := h _ (by simp [Bundle.ownAtoms])
  obtain ⟨vm₁, cX, kX, hfX, hkX, -, -, X₁, st1⟩ := Y.newCold hexec (own := own) (C := cls) (index := ik) (n := 6) hown' hk' hins hini'
    (g := F0 m pc ls rest) rfl (by rw [hb]; exact d0) (Nat.le_refl _) (Nat.le_refl _)
  generalize hT1 : (T.setVm vm₁).pushCell { cls := cX, slots := kX.instanceTypes.map defaultValue, vm := .none } = T1 at X₁ st1
  have hcat : (Value.ref T.heap.size).category = 1 := rfl
  have hcellA : T1.heap[T.heap.size]? = some (freshCell cX kX) := by rw [← hT1]; exact State.heap_pushCell_size _ _
  have d3' : decode c.code (pc + 3) = .ok (.dup, 1) := by rw [hb]; exact d3
  have d4' : decode c.code (pc + 4) = .ok (.ldc_w is, 3) := by rw [hb]; exact d4
  have hstr' : vk_R own is text sa s' := vk_R.warm hW0 hstr
  obtain ⟨U, hsteps, hrun, hend, hW, hsame, ce, hce, hO⟩ := X₁.ctorThrowS hexec htr (own := own) (cls := cls) (names := names) (ic := ic) hown' hcls hnames h (fun x hx => nomatch hx) hfX hkX hcellA (by rw [hhp, hT]; exact Nat.le_refl _) (msg := .ref sa) rfl
    (g := { method := m, pc := pc + 7, locals := ls, stack := .ref sa :: .ref T.heap.size :: .ref T.heap.size :: rest, locked := none }) rfl hsize rfl rfl (rest := rest) rfl
    (by rw [hb]; exact d7) (by rw [hb]; exact d10) hout hRframes (by simp only [List.map_cons, List.sum_cons, hcat]; omega) hlocks
  obtain ⟨f1, f2⟩ := vx_frame hsame
  rw [hhp] at f1 f2
  have hWs : s.WarmedH U.vm := State.WarmedH.trans hW0 hW
  have hcl : s.vm.findClass cls = some ce.cls := by
    have h9 := hO.cls
    rw [hvm] at h9
    exact h9
  have hall : s.sameButNew ({ U with vm := s.vm } : State) locs mc ms := by
    subst hA
    obtain ⟨e1, e2⟩ := hsame
    rw [State.setFrames_setFrames] at e1
    have h2 : (T.setVm s.vm).sameButNew ({ U with vm := s.vm } : State) [] (0 + 1) (0 + 6) := ⟨e1, e2⟩
    have h3 := X.same.trans h2
    rw [List.append_nil] at h3
    exact h3.mono hc hs
  refine ⟨U, ?_, .threw T.heap.size, hrun, hend, Or.inr ⟨T.heap.size, rfl, cls, ce, locs, hx U hWs.alike f1 (fun q hq => f2 q hq (fun z hz => nomatch hz)), hce, hO.vm, hcl, hWs, hall, hf⟩⟩
  refine st1 _ ?_
  show Steps p.tables e below (T1.setTop { method := m, pc := pc + 3, locals := ls, stack := .ref T.heap.size :: rest, locked := none }) _
  jvm_step X₁.here [X₁.here.top, hexec, d3', Value.category]
  exact X₁.ldcStringW hexec (own := own) (text := text) (index := is) (a := sa) hown' hstr'.1 hstr'.2
    (g := { method := m, pc := pc + 4, locals := ls, stack := .ref T.heap.size :: .ref T.heap.size :: rest, locked := none }) rfl d4' _ hsteps
end Ends
section Bodies
variable {l : Launch}
theorem vx_ofW {y : MethodName} {ws ws' : List Cond} {rm : Room} {Pc : Array Value → State → Prop} {Qc : Array Value → State → Outcome → State → Prop} {XC : String → State → State → Prop} {mc ms : Nat} {free : Addr → Prop} {cc : ByteArray} {maxL : Nat} {ret : Option FieldType}
    (hy : plainName y.cls = true) (hw : ws = Cond.code y cc maxL ret :: ws')
    (body : ∀ p e s m args below meth c s₁, BodyLoose p l y (headSpec ws rm) cc maxL ret e s m args below meth c s₁ → c.maxLocals = maxL → (∀ x ∈ c.exceptionTable.toList, False) → Pc args s →
      W p l e (headSpec ws rm).room s m args below meth c s.heap [] 0 0 (vx_MQ below Qc XC args s mc ms free) (entryFrame m args maxL)) : vx_Met l y ws rm Pc Qc XC mc ms free := by
  refine MetFree.of_bodyS (code := cc) (maxLocals := maxL) (ret := ret) hy ?_ ?_
  · intro args s m h hn
    obtain ⟨meth, c, h1, h2, h3, h4, h5, h6, -, -⟩ := Cond.code_spec hn (atoms_spec (ws := ws) h _ (by rw [hw]; exact List.mem_cons_self))
    exact ⟨meth, c, h1, h2, h3, h4, h5, h6⟩
  · intro p e s m args below meth c s₁ B hml hP _
    have hh0 : s₁.heap = s.heap := by rw [B.state]; rfl
    have ht : ∀ x ∈ c.exceptionTable.toList, False := by
      obtain ⟨meth9, c9, h1, h2, -, -, -, -, h7, -⟩ := Cond.code_spec B.named (atoms_spec (ws := ws) B.pre _ (by rw [hw]; exact List.mem_cons_self))
      cases Option.some.inj (h1.symm.trans B.method)
      cases Option.some.inj (h2.symm.trans (Stand.of_body B).code)
      intro x hx
      rw [Array.isEmpty_iff.mp h7] at hx
      cases hx
    obtain ⟨t, a1, o, b1, b2, b3⟩ := body p e s m args below meth c s₁ B hml ht hP s₁ hh0 (Stand.of_body B)
    exact ⟨t, o, a1, b1, b2, b3⟩
/-- the table of a body with handlers -/
theorem vx_table {p : Program} {x y : MethodName} {S : Spec} {cc bytes : ByteArray} {maxL maxL' : Nat} {ret ret' : Option FieldType} {e : Env} {s s₁ : State} {m : MethodId} {args : Array Value} {below : List Frame} {meth : Method} {c : Code} {hh : List (Nat × Nat × Nat × Nat)}
    (B : BodyLoose p l y S cc maxL ret e s m args below meth c s₁) (h : (Cond.codeWith y bytes maxL' ret' hh).before args s = true) : c.exceptionTable.toList = tableOf hh := by
  obtain ⟨m9, meth9, c9, hn9, h1, h2, -, -, h6, -⟩ := Cond.codeWith_spec h
  cases Option.some.inj (hn9.symm.trans B.named)
  cases Option.some.inj (h1.symm.trans B.method)
  cases Option.some.inj (h2.symm.trans (Stand.of_body B).code)
  rw [← h6, table_eq]
end Bodies
end VXA
/-! ===== END ===== -/
/-! ===== BEGIN a static call of a method with an exception table ===== -/
section VXS
variable {p : Program} {l : Launch} {e : Env} {R : Room} {s : State} {m : MethodId} {args : Array Value} {below : List Frame} {meth : Method} {c : Code} {T : State} {H : Heap} {locs : List Loc} {cells slots : Nat}
abbrev vx_CSW (R : Room) (s : State) (args : Array Value) (own : String) (index : Nat) (y : MethodName) (bytes : ByteArray) (maxL : Nat) (ret : Option FieldType) (hh : List (Nat × Nat × Nat × Nat)) (ws : List Cond) (rm : Room) (mc ms n : Nat) : Prop :=
  (rm.cells = mc ∧ rm.slots = ms ∧ rm.frames + 1 ≤ R.frames ∧ 8 + (maxL + 11) + rm.locals ≤ R.locals ∧ (∀ w ∈ ws, ∀ (a' : Array Value) (U : State), s.WarmedH U.vm → w.before a' U = true) ∧ Cond.codeWith y bytes maxL ret hh ∈ ws) ∧
  (Cond.codeWith y bytes maxL ret hh).before args s = true ∧ (Cond.initialized y.cls).before args s = true ∧ (y.cls ≠ "java/lang/invoke/MethodHandle" ∧ y.cls ≠ "java/lang/invoke/VarHandle") ∧
  (∀ sig, parseMethodDescriptor y.desc = some sig → n = sig.parameters.length) ∧ (Cond.methodLink own index y).before args s = true ∧ (Cond.static y).before args s = true
theorem vx_cwSW {own : String} {index maxL mc ms : Nat} {y : MethodName} {bytes : ByteArray} {ret : Option FieldType} {hh : List (Nat × Nat × Nat × Nat)} {Ts ws ws' : List Cond} {rm : Room} (n : Nat) (ht : ∀ w ∈ Ts, w.before args s = true) (hT : GoodIn Ts (va_wsS own index y ws)) (hw : ws = Cond.codeWith y bytes maxL ret hh :: ws') (hrc : rm.cells = mc) (hrs : rm.slots = ms)
    (hd : y.cls ≠ "java/lang/invoke/MethodHandle" ∧ y.cls ≠ "java/lang/invoke/VarHandle" ∧ (parseMethodDescriptor y.desc).map (fun d => d.parameters.length) = some n) (hR : rm.frames + 1 ≤ R.frames ∧ 8 + (maxL + 11) + rm.locals ≤ R.locals) :
    vx_CSW R s args own index y bytes maxL ret hh ws rm mc ms n := by
  have ok : ∀ w ∈ va_wsS own index y ws, w.before args s = true := fun w h => ht w (hT w h).1
  have hG : GoodIn Ts ws := fun w h => hT w (by unfold va_wsS; exact List.mem_append_right _ h)
  have hc : Cond.codeWith y bytes maxL ret hh ∈ ws := by rw [hw]; exact List.mem_cons_self
  refine ⟨⟨hrc, hrs, hR.1, hR.2, pay_in ht hG, hc⟩, ht _ (hG _ hc).1, ok _ (by simp [va_wsS]), ⟨hd.1, hd.2.1⟩, fun sig h => ?_, ok _ (by simp [va_wsS]), ok _ (by simp [va_wsS])⟩
  have h2 := hd.2.2
  rw [h] at h2
  exact (Option.some.inj h2).symm
theorem vx_callSW (X : Stand p l e R s m args below meth c T locs cells slots) (hexec : p.tables.exec = Jvm.exec) {own : String} {index : Nat} {y : MethodName} {bytes : ByteArray} {maxL : Nat} {ret : Option FieldType} {hh : List (Nat × Nat × Nat × Nat)}
    (hown : s.vm.findClass own = some m.cls) (hlink : (Cond.methodLink own index y).before args s = true) (hstat : (Cond.static y).before args s = true) (hinit : (Cond.initialized y.cls).before args s = true)
    (hcode : (Cond.codeWith y bytes maxL ret hh).before args s = true) (hy : y.cls ≠ "java/lang/invoke/MethodHandle" ∧ y.cls ≠ "java/lang/invoke/VarHandle")
    {W9 : Nat} {Pre : Pt → Array Value → Prop} {Post : Pt → Array Value → Option Value → Pt → Prop} (hK : Back l R p e below s args y 3 W9 Pre Post)
    {g : JFrame} (hg : g.method = m) (hsize : g.locals.size = c.maxLocals) {argsL rest : List Value} (hlen : ∀ sig, parseMethodDescriptor y.desc = some sig → argsL.length = sig.parameters.length)
    (hstack : g.stack = argsL.reverse ++ rest) (hW : 2 * g.monitorRoom + (rest.map fun v => v.category).sum ≤ W9) (hdg : decode c.code g.pc = .ok (.invokestatic index, 3))
    (hpre : ∀ vm₁, s.WarmedH vm₁ → Pre ⟨T.setVm vm₁, locs, cells, slots⟩ argsL.toArray) :
    ∃ (v : Option Value) (vm₁ : Vm) (B : Pt), s.WarmedH vm₁ ∧ Stand p l e R s m args below meth c B.U B.locs B.cells B.slots ∧ Post ⟨T.setVm vm₁, locs, cells, slots⟩ argsL.toArray v B ∧
      ∀ target, Steps p.tables e below (B.U.setTop { g with pc := g.pc + 3, stack := v.toList ++ rest }) target → Steps p.tables e below (T.setTop g) target := by
  obtain ⟨mk, methM, cM, hnamed, hmethM, -, -, -, -, -, -, hsigM⟩ := Cond.codeWith_spec hcode
  have hstatic : methM.isStatic = true := Cond.static_spec hnamed hmethM hstat
  obtain ⟨kP, hkP, -⟩ := className_of_methodNamed hnamed
  have hinitP : kP.init = .initialized := Cond.initialized_spec (findClass_of_methodNamed hnamed) hkP hinit
  obtain ⟨vm₁, X₁, hstep₁⟩ := X.invokestatic hexec hown hlink hnamed hmethM hstatic hkP hinitP hy (g := g) hg (argsL := argsL) (rest := rest) (hlen _ hsigM) hstack hdg
  obtain ⟨v, B, X', hpost, hsteps⟩ := hK m meth c ⟨T.setVm vm₁, locs, cells, slots⟩ { g with stack := rest } (.invokestatic index) mk argsL.toArray X₁ hg hsize hdg hW (X₁.named hnamed) (hpre vm₁ X₁.warmed)
  exact ⟨v, vm₁, B, X₁.warmed, X', hpost, fun target h => hstep₁ _ fun acts => by rw [doInvoke_state]; exact hsteps.trans h⟩
theorem vx_runSW {y : MethodName} {bytes cc : ByteArray} {maxL nL mc ms n index : Nat} {ret : Option FieldType} {hh : List (Nat × Nat × Nat × Nat)} {ws : List Cond} {rm : Room} {Pc : Array Value → State → Prop} {Qc : Array Value → State → Outcome → State → Prop} {free : Addr → Prop} {Ts : List Cond} {own : String} {As rest : List Value} {g : JFrame}
    (S : CallFix p m c cc nL s args Ts own) (hM : Met l y ws rm Pc Qc mc ms free) (cw : vx_CSW R s args own index y bytes maxL ret hh ws rm mc ms n) (hp : PreS s H Pc As)
    (hg : g.method = m) (hn : As.length = n) (hsize : g.locals.size = nL) (hstack : g.stack = As.reverse ++ rest) (hW : 2 * g.monitorRoom + (rest.map fun v => v.category).sum ≤ 8) (hdg : decode cc g.pc = .ok (.invokestatic index, 3)) (hf : cells + mc ≤ R.cells ∧ slots + ms ≤ R.slots) :
    va_Run p l e R s m args below meth c H locs cells slots mc ms g rest (Qc As.toArray) (free) := by
  obtain ⟨⟨hrc, hrs, hfr, hlo, hws, hcw⟩, hcode, hini, hy, hlen, hl, hstt⟩ := cw
  have hK : Back l R p e below s args y 3 8 (PreOf R mc ms Pc) (PostOf Qc mc ms free) := va_backW (hh := hh) (bytes := bytes) (maxL := maxL) (ret := ret) hM hp.1 hrc hrs hfr hlo hws hcw (fun a' U hW => word_at hW (Or.inl (by first | rfl | simp [Cond.onTables, Cond.keeps, Cond.steady])) hini)
  obtain ⟨hx, hb, hml, ho, -⟩ := S
  intro T hT X
  obtain ⟨v, vm₁, ⟨U', l2, c2, s2⟩, hW₁, X', ⟨g', mk, t, L, e1, e2, hq, h1, hL, h2, h3⟩, st⟩ := vx_callSW X hx (hh := hh) (bytes := bytes) (maxL := maxL) (ret := ret) ho hl hstt hini hcode hy hK hg (hsize.trans hml.symm) (argsL := As) (rest := rest) (fun sig h => hn.trans (hlen sig h)) hstack hW (by rw [hb]; exact hdg)
    (fun vm₁ hW₁ => ⟨hf.1, hf.2, hp.2 (T.setVm vm₁) hT hW₁⟩)
  dsimp only [Pt.U, Pt.locs, Pt.cells, Pt.slots] at X' e1 e2 h1 h2 h3 st
  subst h1; subst h2; subst h3
  exact ⟨v, (T.setVm vm₁).calling g' mk As.toArray, t, U', L, hT, X', hL, e1, e2, hq, st⟩
/-- not caught here, past rows that name other classes: it goes on to the caller -/
theorem vx_outP {p : Program} {l : Launch} {e : Env} {R : Room} {s : State} {m : MethodId} {args : Array Value} {below : List Frame} {meth : Method} {c : Code} {H : Heap} {locs : List Loc} {cells slots : Nat} {free : Addr → Prop} {ls : Array Slot} {rest : List Value} {Qc : Array Value → State → Outcome → State → Prop} {XC : String → State → State → Prop}
    {pc : Nat} {own E : String} {ce : Cell} {q : Addr} {mc ms : Nat} (hown : s.vm.findClass own = some m.cls) (hlocks : meth.locks = false)
    (hpass : ∀ z ∈ c.exceptionTable.toList, covers z pc = false ∨ (z.catchType ≠ 0 ∧ ∃ nm : String, (Cond.classLink own z.catchType nm).before args s = true ∧ va_Nc E nm s)) (hcell : H[q]? = some ce) (hv : ce.vm = .none) (hcl : s.vm.findClass E = some ce.cls)
    (hx : ∀ t : State, t.heap = H → s.vm.Alike t.vm → XC E s t) (hf : ∀ z ∈ locs, free z.base) (hc : cells ≤ mc) (hs : slots ≤ ms) :
    vx_W p l e R s m args below meth c H locs cells slots (vx_MQ below Qc XC args s mc ms free) (F0 m pc ls rest) q := by
  intro T hT X
  have hpl : e.platform.magicAccessors = ({} : Platform).magicAccessors := by rw [X.admits.platform]
  obtain ⟨vm', hW', X', st⟩ := X.outThrough hlocks q (g := F0 m pc ls rest) rfl rfl rfl (cell := ce) (by rw [hT]; exact hcell) (by rw [hv]; rfl)
    (by obtain ⟨k9, h9, -⟩ := Vm.findClass_spec hcl; exact ⟨k9, h9⟩) (fun z hz => by
      rcases hpass z hz with h | ⟨hz0, nm, hl1, hn1⟩
      · exact Or.inl h
      · obtain ⟨c6, hc6, hcl6⟩ := Cond.classLink_spec hown hl1 e.platform hpl
        obtain ⟨a8, b8, h1, h2, h3⟩ := hn1
        cases Option.some.inj (h1.symm.trans hcl)
        cases Option.some.inj (h2.symm.trans hc6)
        exact Or.inr ⟨hz0, _, hcl6, h3⟩)
  obtain ⟨g₀, hfr⟩ := X'.frames_eq
  have hcell9 : ((T.setVm vm').setFrames (.throwing q :: below)).heap[q]? = some ce := by
    show T.heap[q]? = some ce
    rw [hT]; exact hcell
  have hend : Ended ((T.setVm vm').setFrames (.throwing q :: below)) below (.threw q) := State.frames_setFrames _ (State.cur_lt_of_frames hfr)
  refine ⟨(T.setVm vm').setFrames (.throwing q :: below), ?_, .threw q, X'.here.running, hend, Or.inr ⟨q, rfl, E, ce, locs, hx _ hT (X'.ends _).1.alike, hcell9, hv, hcl, (X'.ends _).1, (X'.ends _).2.mono hc hs, hf⟩⟩
  rw [X.pushThrowing_eq]
  exact st
/-- a thing of a world lies in the heap -/
theorem vx_lt {D : va_G} {cl : List vw_C} {ws : va_W} {H1 : Heap} (h : va_P D cl ws H1) {k : Nat} {q : Nat × va_E} (hk : ws[k]? = some q) : q.1 < H1.size := (h k q hk).lt
end VXS
/-! ===== END ===== -/
/-! ===== BEGIN methods with a table of their own: called by a name, returning or throwing ===== -/
section VXH
/-! vx_backW, vx_callVX, vx_callSX, vx_callVW, vx_runVW, vx_runVX, vx_runSX, vx_ofWH follow the same proofs as their sisters above (Free/Laws.lean, Shelf42/LK1.lean); vx_outP calls Shelf42/NT130.lean (outThrough). -/
section
variable {l : Launch} {R : Room} {p : Program} {e : Env} {below : List Frame} {s : State} {sargs : Array Value} {y : MethodName} {len W9 : Nat}
theorem vx_backW {ws : List Cond} {rm : Room} {Pc : Array Value → State → Prop} {Qc : Array Value → State → Outcome → State → Prop} {XC : String → State → State → Prop} {mc ms : Nat} {free : Addr → Prop} {bytes : ByteArray} {maxL : Nat} {ret : Option FieldType} {hh : List (Nat × Nat × Nat × Nat)}
    (hM : vx_Met l y ws rm Pc Qc XC mc ms free) (hblind : FrameBlind Pc) (hrc : rm.cells = mc) (hrs : rm.slots = ms)
    (hframes : rm.frames + 1 ≤ R.frames) (hlocals : W9 + (maxL + 11) + rm.locals ≤ R.locals)
    (hws : ∀ w ∈ ws, ∀ a' U, s.WarmedH U.vm → w.before a' U = true) (hcode : Cond.codeWith y bytes maxL ret hh ∈ ws) (hinit : ∀ a' U, s.WarmedH U.vm → (Cond.initialized y.cls).before a' U = true) :
    vx_Back l R p e below s sargs y len W9 (PreOf R mc ms Pc) (PostOf Qc mc ms free) (vx_Post XC mc ms free) := by
  intro m meth c A g ig mk a X hg hsize hdg hW hn hp
  have h1 : (headSpec ws rm).pre.before a A.U = true := atoms_intro fun w hw => hws w hw _ _ X.warmed
  have h2 : (Cond.codeWith y bytes maxL ret hh).before a A.U = true := hws _ hcode _ _ X.warmed
  have h3 : (Cond.initialized y.cls).before a A.U = true := hinit _ _ X.warmed
  have h4 : A.cells + (headSpec ws rm).room.cells ≤ R.cells := by rw [show (headSpec ws rm).room.cells = mc from hrc]; exact hp.1
  have h5 : A.slots + (headSpec ws rm).room.slots ≤ R.slots := by rw [show (headSpec ws rm).room.slots = ms from hrs]; exact hp.2.1
  have hPc : Pc a (A.U.calling g mk a) := hblind _ _ _ _ hp.2.2
  obtain ⟨U, Ls, c0, s0⟩ := A
  dsimp only [Pt.U, Pt.locs, Pt.cells, Pt.slots] at h1 h2 h3 h4 h5 X hn hPc ⊢
  obtain ⟨m9, methY, cY, hn9, hmY, hcY, -, hlY, -⟩ := Cond.codeWith_spec h2
  cases Option.some.inj (hn9.symm.trans hn)
  obtain ⟨kY, hkY, -⟩ := className_of_methodNamed hn
  have hinitY : kY.init = .initialized := Cond.initialized_spec (findClass_of_methodNamed hn) hkY h3
  have h : At U g.method c below := by rw [hg]; exact X.here
  have hlocals9 : W9 + (maxL + 11) + (headSpec ws rm).room.locals ≤ R.locals := hlocals
  have happ : (headSpec ws rm).appliesLoose y e.platform (U.calling g mk a) = true :=
    Spec.appliesLoose_calling (g := g) h hdg hn hkY hinitY
      (X.room_calling (g := g) (R' := (headSpec ws rm).room) hsize hmY hcY hframes (by rw [hlY]; omega) h4 h5) h1
  obtain ⟨mid, hmid⟩ := h.above
  have hfr : (U.setTop g).frames = (.java g :: mid) ++ below := by rw [State.frames_setTop' g h.top, hmid]; rfl
  obtain ⟨o, s₂, hsteps, -, hend, hq⟩ := Steps.callFree hM p X.admits X.cas X.clock (acts := []) hfr happ hPc trivial
  have hq' : vx_Q Qc XC mc ms free a (U.calling g mk a) o s₂ := hq
  rw [State.frames_setTop' g h.top] at hend
  obtain ⟨g₀, hg0⟩ := Option.isSome_iff_exists.mp h.top
  obtain ⟨r, hr⟩ := State.topJava?_eq_some.mp hg0
  have hr' : (({ U with heap := s₂.heap, slotsUsed := s₂.slotsUsed } : State).setVm s₂.vm).frames = .java g₀ :: r := hr
  rcases hq' with ⟨hqc, L, hfe, hL⟩ | ⟨q, rfl, E, ce, L, hx, hce, hcv, hcl, hW₂, hsm, hL⟩
  · obtain ⟨⟨v, rfl⟩, hW₂, e2, q2, q3, q4, q5, q6⟩ := id hfe
    have e3 : s₂ = ({ (U.calling g mk a).setFrames s₂.frames with heap := s₂.heap, slotsUsed := s₂.slotsUsed } : State).setVm s₂.vm := by
      have : s₂ = ({ s₂ with vm := (U.calling g mk a).vm } : State).setVm s₂.vm := rfl
      rw [e2] at this
      exact this
    obtain ⟨c₂, i₂, len₂, hc₂, hd₂, hf₂⟩ := hend
    have hW' : U.WarmedH s₂.vm := hW₂
    have hcc : c₂ = c := by
      have h1 : s₂.code? g.method = U.code? g.method := by
        rw [State.code?_eq, State.code?_eq, hW'.alike.method?]
      exact Option.some.inj (hc₂.symm.trans (h1.trans h.code))
    subst hcc
    have hlen : len₂ = len := by rw [hdg] at hd₂; cases hd₂; rfl
    subst hlen
    have hs₂ : s₂ = (({ U with heap := s₂.heap, slotsUsed := s₂.slotsUsed } : State).setVm s₂.vm).setTop { g with pc := g.pc + len₂, stack := v.toList ++ g.stack } := by
      refine e3.trans ?_
      rw [hf₂, State.calling_eq h.top, State.setFrames_setFrames, State.setTop_of_frames _ hr', hr]
      rfl
    have hsame : U.sameButNew ({ U with heap := s₂.heap, slotsUsed := s₂.slotsUsed } : State) L mc ms := by
      refine ⟨?_, q2, q3, q4, q5, q6⟩
      obtain ⟨t, ht, -⟩ := State.frames_cons hr
      show ({ U with heap := s₂.heap, slotsUsed := s₂.slotsUsed } : State) = { U.setFrames U.frames with heap := s₂.heap, slotsUsed := s₂.slotsUsed }
      rw [State.setFrames_self ht]
    subst hg
    refine Or.inl ⟨v, ⟨(({ U with heap := s₂.heap, slotsUsed := s₂.slotsUsed } : State).setVm s₂.vm), Ls ++ L, c0 + mc, s0 + ms⟩,
      ⟨X.admits, X.cas, X.clock, X.frames, X.room, X.hears, X.method, X.code, (X.here.setHeapUsed s₂.heap s₂.slotsUsed).setVm hW'.alike, X.tail, State.WarmedH.trans X.warmed hW', X.limits, X.bytes, X.same.trans (hsame.setVm s.vm)⟩,
      ⟨g, mk, s₂, L, rfl, rfl, hqc, rfl, hL, rfl, rfl⟩, ?_⟩
    show Steps p.tables e below _ ((({ U with heap := s₂.heap, slotsUsed := s₂.slotsUsed } : State).setVm s₂.vm).setTop { g with pc := g.pc + len₂, stack := v.toList ++ g.stack })
    rw [← hs₂]
    exact hsteps
  · obtain ⟨e2, q2, q3, q4, q5, q6⟩ := id hsm
    have e3 : s₂ = ({ (U.calling g mk a).setFrames s₂.frames with heap := s₂.heap, slotsUsed := s₂.slotsUsed } : State).setVm s₂.vm := by
      have : s₂ = ({ s₂ with vm := (U.calling g mk a).vm } : State).setVm s₂.vm := rfl
      rw [e2] at this
      exact this
    have hf₂ : s₂.frames = .throwing q :: .java g :: U.frames.tail := hend
    have hW' : U.WarmedH s₂.vm := hW₂
    have hs₂ : s₂ = ((({ U with heap := s₂.heap, slotsUsed := s₂.slotsUsed } : State).setVm s₂.vm).setTop g).pushFrame (.throwing q) := by
      refine e3.trans ?_
      rw [hf₂, State.calling_eq h.top, State.setFrames_setFrames, State.pushFrame, State.frames_setTop _ hr', State.setTop_of_frames _ hr', State.setFrames_setFrames, hr]
      rfl
    have hsame : U.sameButNew ({ U with heap := s₂.heap, slotsUsed := s₂.slotsUsed } : State) L mc ms := by
      refine ⟨?_, q2, q3, q4, q5, q6⟩
      obtain ⟨t, ht, -⟩ := State.frames_cons hr
      show ({ U with heap := s₂.heap, slotsUsed := s₂.slotsUsed } : State) = { U.setFrames U.frames with heap := s₂.heap, slotsUsed := s₂.slotsUsed }
      rw [State.setFrames_self ht]
    subst hg
    refine Or.inr ⟨q, ⟨(({ U with heap := s₂.heap, slotsUsed := s₂.slotsUsed } : State).setVm s₂.vm), Ls ++ L, c0 + mc, s0 + ms⟩,
      ⟨X.admits, X.cas, X.clock, X.frames, X.room, X.hears, X.method, X.code, (X.here.setHeapUsed s₂.heap s₂.slotsUsed).setVm hW'.alike, X.tail, State.WarmedH.trans X.warmed hW', X.limits, X.bytes, X.same.trans (hsame.setVm s.vm)⟩,
      ⟨g, mk, s₂, L, E, ce, rfl, rfl, hx, hce, hcv, hcl, rfl, hL, rfl, rfl⟩, ?_⟩
    show Steps p.tables e below _ (((({ U with heap := s₂.heap, slotsUsed := s₂.slotsUsed } : State).setVm s₂.vm).setTop g).pushFrame (.throwing q))
    rw [← hs₂]
    exact hsteps
end
variable {p : Program} {l : Launch} {e : Env} {R : Room} {s : State} {m : MethodId} {args : Array Value} {below : List Frame} {meth : Method} {c : Code} {T : State} {H : Heap} {locs : List Loc} {cells slots : Nat}
theorem vx_callVX (X : Stand p l e R s m args below meth c T locs cells slots) (hexec : p.tables.exec = Jvm.exec) {own C : String} {index : Nat} {y : MethodName} {bytes : ByteArray} {maxL : Nat} {ret : Option FieldType} {hh : List (Nat × Nat × Nat × Nat)}
    (hown : s.vm.findClass own = some m.cls) (hlink : (Cond.methodLink own index y).before args s = true) (hinst : (Cond.instanceMethod y).before args s = true) (hsel : (Cond.selects C y y).before args s = true)
    (hcode : (Cond.codeWith y bytes maxL ret hh).before args s = true) (hy : y.cls ≠ "java/lang/invoke/MethodHandle" ∧ y.cls ≠ "java/lang/invoke/VarHandle")
    {W9 : Nat} {Pre : Pt → Array Value → Prop} {Post : Pt → Array Value → Option Value → Pt → Prop} {PostX : Pt → Array Value → Addr → Pt → Prop} (hK : vx_Back l R p e below s args y 3 W9 Pre Post PostX)
    {b : Addr} {cellB : Cell} (hcell : T.heap[b]? = some cellB) (hobj : cellB.vm.isStatics = false) (hcls : s.vm.findClass C = some cellB.cls)
    {g : JFrame} (hg : g.method = m) (hsize : g.locals.size = c.maxLocals) {argsL rest : List Value} (hlen : ∀ sig, parseMethodDescriptor y.desc = some sig → argsL.length = sig.parameters.length)
    (hstack : g.stack = argsL.reverse ++ .ref b :: rest) (hW : 2 * g.monitorRoom + (rest.map fun v => v.category).sum ≤ W9) (hdg : decode c.code g.pc = .ok (.invokevirtual index, 3))
    (hpre : ∀ vm₁, s.WarmedH vm₁ → Pre ⟨T.setVm vm₁, locs, cells, slots⟩ (Value.ref b :: argsL).toArray) :
    (∃ (v : Option Value) (vm₁ : Vm) (B : Pt), s.WarmedH vm₁ ∧ Stand p l e R s m args below meth c B.U B.locs B.cells B.slots ∧ Post ⟨T.setVm vm₁, locs, cells, slots⟩ (Value.ref b :: argsL).toArray v B ∧
      ∀ target, Steps p.tables e below (B.U.setTop { g with pc := g.pc + 3, stack := v.toList ++ rest }) target → Steps p.tables e below (T.setTop g) target) ∨
    (∃ (q : Addr) (vm₁ : Vm) (B : Pt), s.WarmedH vm₁ ∧ Stand p l e R s m args below meth c B.U B.locs B.cells B.slots ∧ PostX ⟨T.setVm vm₁, locs, cells, slots⟩ (Value.ref b :: argsL).toArray q B ∧
      Steps p.tables e below (T.setTop g) ((B.U.setTop { g with stack := rest }).pushFrame (.throwing q))) := by
  obtain ⟨mk, methM, hnamed, hmethM, hstM, habM⟩ := Cond.instanceMethod_spec hinst
  obtain ⟨m8, methM', cM, hn8, hmethM', -, -, -, -, -, -, hsigM⟩ := Cond.codeWith_spec hcode
  cases Option.some.inj (hn8.symm.trans hnamed)
  cases hmethM.symm.trans hmethM'
  obtain ⟨c2, r2, m2, q1, q2, q3, q4, kP, hkP, hkPi⟩ := Cond.selects_spec hsel
  cases hcls.symm.trans q1
  cases (State.methodFound?_of_named hnamed hy).symm.trans q2
  cases hnamed.symm.trans q3
  have hselP : selectMethod e.platform s.vm cellB.cls mk = .method mk := by rw [Launch.admits_selectMethod X.admits]; exact q4
  obtain ⟨vm₁, X₁, hstep₁⟩ := X.invokevirtual hexec hown hlink hnamed hmethM hstM hkP hkPi hy (a := b) (cell := cellB) hcell
    (fun z h => by rw [h] at hobj; cases hobj) hselP hmethM habM hkP hkPi (g := g) hg (argsL := argsL) (rest := rest) (hlen _ hsigM) hstack hdg
  rcases hK m meth c ⟨T.setVm vm₁, locs, cells, slots⟩ { g with stack := rest } (.invokevirtual index) mk (Value.ref b :: argsL).toArray X₁ hg hsize hdg hW (X₁.named hnamed) (hpre vm₁ X₁.warmed) with ⟨v, B, X', hpost, hsteps⟩ | ⟨q, B, X', hpost, hsteps⟩
  · exact Or.inl ⟨v, vm₁, B, X₁.warmed, X', hpost, fun target h => hstep₁ _ fun acts => by rw [doInvoke_state]; exact hsteps.trans h⟩
  · exact Or.inr ⟨q, vm₁, B, X₁.warmed, X', hpost, hstep₁ _ fun acts => by rw [doInvoke_state]; exact hsteps⟩
theorem vx_callSX (X : Stand p l e R s m args below meth c T locs cells slots) (hexec : p.tables.exec = Jvm.exec) {own : String} {index : Nat} {y : MethodName} {bytes : ByteArray} {maxL : Nat} {ret : Option FieldType} {hh : List (Nat × Nat × Nat × Nat)}
    (hown : s.vm.findClass own = some m.cls) (hlink : (Cond.methodLink own index y).before args s = true) (hstat : (Cond.static y).before args s = true) (hinit : (Cond.initialized y.cls).before args s = true)
    (hcode : (Cond.codeWith y bytes maxL ret hh).before args s = true) (hy : y.cls ≠ "java/lang/invoke/MethodHandle" ∧ y.cls ≠ "java/lang/invoke/VarHandle")
    {W9 : Nat} {Pre : Pt → Array Value → Prop} {Post : Pt → Array Value → Option Value → Pt → Prop} {PostX : Pt → Array Value → Addr → Pt → Prop} (hK : vx_Back l R p e below s args y 3 W9 Pre Post PostX)
    {g : JFrame} (hg : g.method = m) (hsize : g.locals.size = c.maxLocals) {argsL rest : List Value} (hlen : ∀ sig, parseMethodDescriptor y.desc = some sig → argsL.length = sig.parameters.length)
    (hstack : g.stack = argsL.reverse ++ rest) (hW : 2 * g.monitorRoom + (rest.map fun v => v.category).sum ≤ W9) (hdg : decode c.code g.pc = .ok (.invokestatic index, 3))
    (hpre : ∀ vm₁, s.WarmedH vm₁ → Pre ⟨T.setVm vm₁, locs, cells, slots⟩ argsL.toArray) :
    (∃ (v : Option Value) (vm₁ : Vm) (B : Pt), s.WarmedH vm₁ ∧ Stand p l e R s m args below meth c B.U B.locs B.cells B.slots ∧ Post ⟨T.setVm vm₁, locs, cells, slots⟩ argsL.toArray v B ∧
      ∀ target, Steps p.tables e below (B.U.setTop { g with pc := g.pc + 3, stack := v.toList ++ rest }) target → Steps p.tables e below (T.setTop g) target) ∨
    (∃ (q : Addr) (vm₁ : Vm) (B : Pt), s.WarmedH vm₁ ∧ Stand p l e R s m args below meth c B.U B.locs B.cells B.slots ∧ PostX ⟨T.setVm vm₁, locs, cells, slots⟩ argsL.toArray q B ∧
      Steps p.tables e below (T.setTop g) ((B.U.setTop { g with stack := rest }).pushFrame (.throwing q))) := by
  obtain ⟨mk, methM, cM, hnamed, hmethM, -, -, -, -, -, -, hsigM⟩ := Cond.codeWith_spec hcode
  have hstatic : methM.isStatic = true := Cond.static_spec hnamed hmethM hstat
  obtain ⟨kP, hkP, -⟩ := className_of_methodNamed hnamed
  have hinitP : kP.init = .initialized := Cond.initialized_spec (findClass_of_methodNamed hnamed) hkP hinit
  obtain ⟨vm₁, X₁, hstep₁⟩ := X.invokestatic hexec hown hlink hnamed hmethM hstatic hkP hinitP hy (g := g) hg (argsL := argsL) (rest := rest) (hlen _ hsigM) hstack hdg
  rcases hK m meth c ⟨T.setVm vm₁, locs, cells, slots⟩ { g with stack := rest } (.invokestatic index) mk argsL.toArray X₁ hg hsize hdg hW (X₁.named hnamed) (hpre vm₁ X₁.warmed) with ⟨v, B, X', hpost, hsteps⟩ | ⟨q, B, X', hpost, hsteps⟩
  · exact Or.inl ⟨v, vm₁, B, X₁.warmed, X', hpost, fun target h => hstep₁ _ fun acts => by rw [doInvoke_state]; exact hsteps.trans h⟩
  · exact Or.inr ⟨q, vm₁, B, X₁.warmed, X', hpost, hstep₁ _ fun acts => by rw [doInvoke_state]; exact hsteps⟩
theorem vx_callVW (X : Stand p l e R s m args below meth c T locs cells slots) (hexec : p.tables.exec = Jvm.exec) {own C : String} {index : Nat} {y : MethodName} {bytes : ByteArray} {maxL : Nat} {ret : Option FieldType} {hh : List (Nat × Nat × Nat × Nat)}
    (hown : s.vm.findClass own = some m.cls) (hlink : (Cond.methodLink own index y).before args s = true) (hinst : (Cond.instanceMethod y).before args s = true) (hsel : (Cond.selects C y y).before args s = true)
    (hcode : (Cond.codeWith y bytes maxL ret hh).before args s = true) (hy : y.cls ≠ "java/lang/invoke/MethodHandle" ∧ y.cls ≠ "java/lang/invoke/VarHandle")
    {W9 : Nat} {Pre : Pt → Array Value → Prop} {Post : Pt → Array Value → Option Value → Pt → Prop} (hK : Back l R p e below s args y 3 W9 Pre Post)
    {b : Addr} {cellB : Cell} (hcell : T.heap[b]? = some cellB) (hobj : cellB.vm.isStatics = false) (hcls : s.vm.findClass C = some cellB.cls)
    {g : JFrame} (hg : g.method = m) (hsize : g.locals.size = c.maxLocals) {argsL rest : List Value} (hlen : ∀ sig, parseMethodDescriptor y.desc = some sig → argsL.length = sig.parameters.length)
    (hstack : g.stack = argsL.reverse ++ .ref b :: rest) (hW : 2 * g.monitorRoom + (rest.map fun v => v.category).sum ≤ W9) (hdg : decode c.code g.pc = .ok (.invokevirtual index, 3))
    (hpre : ∀ vm₁, s.WarmedH vm₁ → Pre ⟨T.setVm vm₁, locs, cells, slots⟩ (Value.ref b :: argsL).toArray) :
    ∃ (v : Option Value) (vm₁ : Vm) (B : Pt), s.WarmedH vm₁ ∧ Stand p l e R s m args below meth c B.U B.locs B.cells B.slots ∧ Post ⟨T.setVm vm₁, locs, cells, slots⟩ (Value.ref b :: argsL).toArray v B ∧
      ∀ target, Steps p.tables e below (B.U.setTop { g with pc := g.pc + 3, stack := v.toList ++ rest }) target → Steps p.tables e below (T.setTop g) target := by
  obtain ⟨mk, methM, hnamed, hmethM, hstM, habM⟩ := Cond.instanceMethod_spec hinst
  obtain ⟨m8, methM', cM, hn8, hmethM', -, -, -, -, -, -, hsigM⟩ := Cond.codeWith_spec hcode
  cases Option.some.inj (hn8.symm.trans hnamed)
  cases hmethM.symm.trans hmethM'
  obtain ⟨c2, r2, m2, q1, q2, q3, q4, kP, hkP, hkPi⟩ := Cond.selects_spec hsel
  cases hcls.symm.trans q1
  cases (State.methodFound?_of_named hnamed hy).symm.trans q2
  cases hnamed.symm.trans q3
  have hselP : selectMethod e.platform s.vm cellB.cls mk = .method mk := by rw [Launch.admits_selectMethod X.admits]; exact q4
  obtain ⟨vm₁, X₁, hstep₁⟩ := X.invokevirtual hexec hown hlink hnamed hmethM hstM hkP hkPi hy (a := b) (cell := cellB) hcell
    (fun z h => by rw [h] at hobj; cases hobj) hselP hmethM habM hkP hkPi (g := g) hg (argsL := argsL) (rest := rest) (hlen _ hsigM) hstack hdg
  obtain ⟨v, B, X', hpost, hsteps⟩ := hK m meth c ⟨T.setVm vm₁, locs, cells, slots⟩ { g with stack := rest } (.invokevirtual index) mk (Value.ref b :: argsL).toArray X₁ hg hsize hdg hW (X₁.named hnamed) (hpre vm₁ X₁.warmed)
  exact ⟨v, vm₁, B, X₁.warmed, X', hpost, fun target h => hstep₁ _ fun acts => by rw [doInvoke_state]; exact hsteps.trans h⟩
abbrev vx_CVW (R : Room) (s : State) (args : Array Value) (own C : String) (index : Nat) (y : MethodName) (bytes : ByteArray) (maxL : Nat) (ret : Option FieldType) (hh : List (Nat × Nat × Nat × Nat)) (ws : List Cond) (rm : Room) (mc ms n : Nat) : Prop :=
  (rm.cells = mc ∧ rm.slots = ms ∧ rm.frames + 1 ≤ R.frames ∧ 8 + (maxL + 11) + rm.locals ≤ R.locals ∧ (∀ w ∈ ws, ∀ (a' : Array Value) (U : State), s.WarmedH U.vm → w.before a' U = true) ∧ Cond.codeWith y bytes maxL ret hh ∈ ws) ∧
  (Cond.codeWith y bytes maxL ret hh).before args s = true ∧ (Cond.initialized y.cls).before args s = true ∧ (y.cls ≠ "java/lang/invoke/MethodHandle" ∧ y.cls ≠ "java/lang/invoke/VarHandle") ∧
  (∀ sig, parseMethodDescriptor y.desc = some sig → n = sig.parameters.length) ∧ (Cond.methodLink own index y).before args s = true ∧ (Cond.instanceMethod y).before args s = true ∧ (Cond.selects C y y).before args s = true
theorem vx_cwVW {own C : String} {index maxL mc ms : Nat} {y : MethodName} {bytes : ByteArray} {ret : Option FieldType} {hh : List (Nat × Nat × Nat × Nat)} {Ts ws ws' : List Cond} {rm : Room} (n : Nat) (ht : ∀ w ∈ Ts, w.before args s = true) (hT : GoodIn Ts (wsV own index C y ws)) (hw : ws = Cond.codeWith y bytes maxL ret hh :: ws') (hrc : rm.cells = mc) (hrs : rm.slots = ms)
    (hd : y.cls = C ∧ y.cls ≠ "java/lang/invoke/MethodHandle" ∧ y.cls ≠ "java/lang/invoke/VarHandle" ∧ (parseMethodDescriptor y.desc).map (fun d => d.parameters.length) = some n) (hR : rm.frames + 1 ≤ R.frames ∧ 8 + (maxL + 11) + rm.locals ≤ R.locals) :
    vx_CVW R s args own C index y bytes maxL ret hh ws rm mc ms n := by
  obtain ⟨hC, hd⟩ := hd
  subst hC
  have ok : ∀ w ∈ wsV own index y.cls y ws, w.before args s = true := fun w h => ht w (hT w h).1
  have hG : GoodIn Ts ws := fun w h => hT w (by unfold wsV; exact List.mem_append_right _ h)
  have hc : Cond.codeWith y bytes maxL ret hh ∈ ws := by rw [hw]; exact List.mem_cons_self
  refine ⟨⟨hrc, hrs, hR.1, hR.2, pay_in ht hG, hc⟩, ht _ (hG _ hc).1, ok _ (by simp [wsV]), ⟨hd.1, hd.2.1⟩, fun sig h => ?_, ok _ (by simp [wsV]), ok _ (by simp [wsV]), ok _ (by simp [wsV])⟩
  have h2 := hd.2.2
  rw [h] at h2
  exact (Option.some.inj h2).symm
theorem vx_runVW {y : MethodName} {bytes cc : ByteArray} {maxL nL mc ms n index : Nat} {ret : Option FieldType} {hh : List (Nat × Nat × Nat × Nat)} {ws : List Cond} {rm : Room} {Pc : Array Value → State → Prop} {Qc : Array Value → State → Outcome → State → Prop} {free : Addr → Prop} {Ts : List Cond} {own C : String} {b : Addr} {As rest : List Value} {g : JFrame}
    (S : CallFix p m c cc nL s args Ts own) (hM : Met l y ws rm Pc Qc mc ms free) (cw : vx_CVW R s args own C index y bytes maxL ret hh ws rm mc ms n) (hp : PreV s H C b Pc As)
    (hg : g.method = m) (hn : As.length = n) (hsize : g.locals.size = nL) (hstack : g.stack = As.reverse ++ .ref b :: rest) (hW : 2 * g.monitorRoom + (rest.map fun v => v.category).sum ≤ 8) (hdg : decode cc g.pc = .ok (.invokevirtual index, 3)) (hf : cells + mc ≤ R.cells ∧ slots + ms ≤ R.slots) :
    va_Run p l e R s m args below meth c H locs cells slots mc ms g rest (Qc (Value.ref b :: As).toArray) free := by
  obtain ⟨⟨hrc, hrs, hfr, hlo, hws, hcw⟩, hcode, hini, hy, hlen, hl, hin, hse⟩ := cw
  have hK : Back l R p e below s args y 3 8 (PreOf R mc ms Pc) (PostOf Qc mc ms free) := va_backW (hh := hh) (bytes := bytes) (maxL := maxL) (ret := ret) hM hp.1 hrc hrs hfr hlo hws hcw (fun a' U hW => word_at hW (Or.inl (by first | rfl | simp [Cond.onTables, Cond.keeps, Cond.steady])) hini)
  obtain ⟨hx, hb, hml, ho, -⟩ := S
  obtain ⟨-, ⟨cellB, hcB, hoB, hclB⟩, hPc⟩ := hp
  intro T hT X
  obtain ⟨v, vm₁, ⟨U', l2, c2, s2⟩, hW₁, X', ⟨g', mk, t, L, e1, e2, hq, h1, hL, h2, h3⟩, st⟩ := vx_callVW X hx (C := C) (hh := hh) (bytes := bytes) (maxL := maxL) (ret := ret) ho hl hin hse hcode hy hK (by rw [hT]; exact hcB) hoB hclB hg (hsize.trans hml.symm) (argsL := As) (rest := rest) (fun sig h => hn.trans (hlen sig h)) hstack hW (by rw [hb]; exact hdg)
    (fun vm₁ hW₁ => ⟨hf.1, hf.2, hPc (T.setVm vm₁) hT hW₁⟩)
  dsimp only [Pt.U, Pt.locs, Pt.cells, Pt.slots] at X' e1 e2 h1 h2 h3 st
  subst h1; subst h2; subst h3
  exact ⟨v, (T.setVm vm₁).calling g' mk (Value.ref b :: As).toArray, t, U', L, hT, X', hL, e1, e2, hq, st⟩
section
variable {y : MethodName} {bytes cc : ByteArray} {maxL nL mc ms n index : Nat} {ret : Option FieldType} {ws : List Cond} {rm : Room} {Pc : Array Value → State → Prop} {Qc : Array Value → State → Outcome → State → Prop} {XC : String → State → State → Prop} {free : Addr → Prop} {Ts : List Cond} {own C : String} {b : Addr} {As rest : List Value} {g : JFrame}
theorem vx_runVX {hh : List (Nat × Nat × Nat × Nat)} (S : CallFix p m c cc nL s args Ts own) (hM : vx_Met l y ws rm Pc Qc XC mc ms free) (cw : vx_CVW R s args own C index y bytes maxL ret hh ws rm mc ms n) (hp : PreV s H C b Pc As)
    (hg : g.method = m) (hn : As.length = n) (hsize : g.locals.size = nL) (hstack : g.stack = As.reverse ++ .ref b :: rest) (hW : 2 * g.monitorRoom + (rest.map fun v => v.category).sum ≤ 8) (hdg : decode cc g.pc = .ok (.invokevirtual index, 3)) (hf : cells + mc ≤ R.cells ∧ slots + ms ≤ R.slots) :
    vx_Run p l e R s m args below meth c H locs cells slots mc ms g rest (Qc (Value.ref b :: As).toArray) XC free := by
  obtain ⟨⟨hrc, hrs, hfr, hlo, hws, hcw⟩, hcode, hini, hy, hlen, hl, hin, hse⟩ := cw
  have hK : vx_Back l R p e below s args y 3 8 (PreOf R mc ms Pc) (PostOf Qc mc ms free) (vx_Post XC mc ms free) := vx_backW (hh := hh) (bytes := bytes) (maxL := maxL) (ret := ret) hM hp.1 hrc hrs hfr hlo hws hcw (fun a' U hW => word_at hW (Or.inl (by first | rfl | simp [Cond.onTables, Cond.keeps, Cond.steady])) hini)
  obtain ⟨hx, hb, hml, ho, -⟩ := S
  obtain ⟨-, ⟨cellB, hcB, hoB, hclB⟩, hPc⟩ := hp
  intro T hT X
  rcases vx_callVX X hx (C := C) (hh := hh) (bytes := bytes) (maxL := maxL) (ret := ret) ho hl hin hse hcode hy hK (by rw [hT]; exact hcB) hoB hclB hg (hsize.trans hml.symm) (argsL := As) (rest := rest) (fun sig h => hn.trans (hlen sig h)) hstack hW (by rw [hb]; exact hdg)
    (fun vm₁ hW₁ => ⟨hf.1, hf.2, hPc (T.setVm vm₁) hT hW₁⟩) with ⟨v, vm₁, ⟨U', l2, c2, s2⟩, hW₁, X', ⟨g', mk, t, L, e1, e2, hq, h1, hL, h2, h3⟩, st⟩ | ⟨q, vm₁, ⟨U', l2, c2, s2⟩, hW₁, X', ⟨g', mk, t, L, E, ce, e1, e2, hq, hce, hcv, hcl, h1, hL, h2, h3⟩, st⟩
  · dsimp only [Pt.U, Pt.locs, Pt.cells, Pt.slots] at X' e1 e2 h1 h2 h3 st
    subst h1; subst h2; subst h3
    exact Or.inl ⟨v, (T.setVm vm₁).calling g' mk (Value.ref b :: As).toArray, t, U', L, hT, X', hL, e1, e2, hq, st⟩
  · dsimp only [Pt.U, Pt.locs, Pt.cells, Pt.slots] at X' e1 e2 h1 h2 h3 st hcl
    subst h1; subst h2; subst h3
    exact Or.inr ⟨q, (T.setVm vm₁).calling g' mk (Value.ref b :: As).toArray, t, U', L, E, ce, hT, X', hL, e1, e2, hq, hce, hcv, vx_cls hW₁ hcl, st⟩
theorem vx_runSX {hh : List (Nat × Nat × Nat × Nat)} (S : CallFix p m c cc nL s args Ts own) (hM : vx_Met l y ws rm Pc Qc XC mc ms free) (cw : vx_CSW R s args own index y bytes maxL ret hh ws rm mc ms n) (hp : PreS s H Pc As)
    (hg : g.method = m) (hn : As.length = n) (hsize : g.locals.size = nL) (hstack : g.stack = As.reverse ++ rest) (hW : 2 * g.monitorRoom + (rest.map fun v => v.category).sum ≤ 8) (hdg : decode cc g.pc = .ok (.invokestatic index, 3)) (hf : cells + mc ≤ R.cells ∧ slots + ms ≤ R.slots) :
    vx_Run p l e R s m args below meth c H locs cells slots mc ms g rest (Qc As.toArray) XC free := by
  obtain ⟨⟨hrc, hrs, hfr, hlo, hws, hcw⟩, hcode, hini, hy, hlen, hl, hstt⟩ := cw
  have hK : vx_Back l R p e below s args y 3 8 (PreOf R mc ms Pc) (PostOf Qc mc ms free) (vx_Post XC mc ms free) := vx_backW (hh := hh) (bytes := bytes) (maxL := maxL) (ret := ret) hM hp.1 hrc hrs hfr hlo hws hcw (fun a' U hW => word_at hW (Or.inl (by first | rfl | simp [Cond.onTables, Cond.keeps, Cond.steady])) hini)
  obtain ⟨hx, hb, hml, ho, -⟩ := S
  intro T hT X
  rcases vx_callSX X hx (hh := hh) (bytes := bytes) (maxL := maxL) (ret := ret) ho hl hstt hini hcode hy hK hg (hsize.trans hml.symm) (argsL := As) (rest := rest) (fun sig h => hn.trans (hlen sig h)) hstack hW (by rw [hb]; exact hdg)
    (fun vm₁ hW₁ => ⟨hf.1, hf.2, hp.2 (T.setVm vm₁) hT hW₁⟩) with ⟨v, vm₁, ⟨U', l2, c2, s2⟩, hW₁, X', ⟨g', mk, t, L, e1, e2, hq, h1, hL, h2, h3⟩, st⟩ | ⟨q, vm₁, ⟨U', l2, c2, s2⟩, hW₁, X', ⟨g', mk, t, L, E, ce, e1, e2, hq, hce, hcv, hcl, h1, hL, h2, h3⟩, st⟩
  · dsimp only [Pt.U, Pt.locs, Pt.cells, Pt.slots] at X' e1 e2 h1 h2 h3 st
    subst h1; subst h2; subst h3
    exact Or.inl ⟨v, (T.setVm vm₁).calling g' mk As.toArray, t, U', L, hT, X', hL, e1, e2, hq, st⟩
  · dsimp only [Pt.U, Pt.locs, Pt.cells, Pt.slots] at X' e1 e2 h1 h2 h3 st hcl
    subst h1; subst h2; subst h3
    exact Or.inr ⟨q, (T.setVm vm₁).calling g' mk As.toArray, t, U', L, E, ce, hT, X', hL, e1, e2, hq, hce, hcv, vx_cls hW₁ hcl, st⟩
end
end VXH
theorem vx_ofWH {l : Launch} {y : MethodName} {ws ws' : List Cond} {rm : Room} {Pc : Array Value → State → Prop} {Qc : Array Value → State → Outcome → State → Prop} {XC : String → State → State → Prop} {mc ms : Nat} {free : Addr → Prop} {cc : ByteArray} {maxL : Nat} {ret : Option FieldType} {hh : List (Nat × Nat × Nat × Nat)}
    (hy : plainName y.cls = true) (hw : ws = Cond.codeWith y cc maxL ret hh :: ws')
    (body : ∀ p e s m args below meth c s₁, BodyLoose p l y (headSpec ws rm) cc maxL ret e s m args below meth c s₁ → c.maxLocals = maxL → Pc args s →
      W p l e (headSpec ws rm).room s m args below meth c s.heap [] 0 0 (vx_MQ below Qc XC args s mc ms free) (entryFrame m args maxL)) : vx_Met l y ws rm Pc Qc XC mc ms free := by
  refine MetFree.of_bodyS (code := cc) (maxLocals := maxL) (ret := ret) hy ?_ ?_
  · intro args s m h hn
    obtain ⟨m9, meth, c, hn9, h1, h2, h3, h4, -, h5, h6, -⟩ := Cond.codeWith_spec (atoms_spec (ws := ws) h _ (by rw [hw]; exact List.mem_cons_self))
    cases hn.symm.trans hn9
    exact ⟨meth, c, h1, h2, h3, h4, h5, h6⟩
  · intro p e s m args below meth c s₁ B hml hP _
    have hh0 : s₁.heap = s.heap := by rw [B.state]; rfl
    obtain ⟨t, a1, o, b1, b2, b3⟩ := body p e s m args below meth c s₁ B hml hP s₁ hh0 (Stand.of_body B)
    exact ⟨t, o, a1, b1, b2, b3⟩
/-! ===== END ===== -/
end
section
def RX0 : String := "RankedSearch$Best"
def TX0 : u_T := fun k => match k with
  | 0 => ("RankedSearch$Best", "numbers", "[I", true)
  | 1 => ("RankedSearch$Best", "points", "[I", true)
  | 2 => ("RankedSearch$Best", "limit", "I", false)
  | _ => ("RankedSearch$Best", "count", "I", false)
def tyX0 : Nat → FieldType := fun k => match k with
  | 0 => .array .int
  | 1 => .array .int
  | 2 => .int
  | _ => .int
theorem nmX0 : ∀ a, a < 4 → ∀ b, b < 4 → a ≠ b → (TX0 a).2.1 ≠ (TX0 b).2.1 := by decide +kernel
theorem tyX0_ok : ∀ k, k < 4 → parseFieldDescriptor (TX0 k).2.2.1 = some (tyX0 k) := by decide +kernel
abbrev cX0_init : ByteArray := prog_2_method_1_code
def yX0_init : MethodName := ⟨RX0, "<init>", "()V"⟩
abbrev cX0_start : ByteArray := prog_2_method_2_code
def yX0_start : MethodName := ⟨RX0, "start", "(I)V"⟩
abbrev cX0_has : ByteArray := prog_2_method_3_code
def yX0_has : MethodName := ⟨RX0, "has", "(I)Z"⟩
abbrev cX0_numberAt : ByteArray := prog_2_method_4_code
def yX0_numberAt : MethodName := ⟨RX0, "numberAt", "(I)I"⟩
abbrev cX0_pointsAt : ByteArray := prog_2_method_5_code
def yX0_pointsAt : MethodName := ⟨RX0, "pointsAt", "(I)I"⟩
abbrev cX0_offer : ByteArray := prog_2_method_6_code
def yX0_offer : MethodName := ⟨RX0, "offer", "(II)V"⟩
abbrev cX0_goesBefore : ByteArray := prog_2_method_7_code
def yX0_goesBefore : MethodName := ⟨RX0, "goesBefore", "(III)Z"⟩
abbrev cX0_set : ByteArray := prog_2_method_8_code
def yX0_set : MethodName := ⟨RX0, "set", "(III)V"⟩
def RX1 : String := "RankedSearch$Document"
def TX1 : u_T := fun k => match k with
  | 0 => ("RankedSearch$Document", "number", "I", true)
  | 1 => ("RankedSearch$Document", "length", "I", false)
  | 2 => ("RankedSearch$Document", "first", "LRankedSearch$Posting;", false)
  | 3 => ("RankedSearch$Document", "met", "Z", false)
  | 4 => ("RankedSearch$Document", "barred", "Z", false)
  | 5 => ("RankedSearch$Document", "termsMet", "I", false)
  | 6 => ("RankedSearch$Document", "points", "I", false)
  | _ => ("RankedSearch$Document", "nextMet", "LRankedSearch$Document;", false)
def tyX1 : Nat → FieldType := fun k => match k with
  | 0 => .int
  | 1 => .int
  | 2 => .object "RankedSearch$Posting"
  | 3 => .boolean
  | 4 => .boolean
  | 5 => .int
  | 6 => .int
  | _ => .object "RankedSearch$Document"
theorem nmX1 : ∀ a, a < 8 → ∀ b, b < 8 → a ≠ b → (TX1 a).2.1 ≠ (TX1 b).2.1 := by decide +kernel
theorem tyX1_ok : ∀ k, k < 8 → parseFieldDescriptor (TX1 k).2.2.1 = some (tyX1 k) := by decide +kernel
abbrev cX1_init : ByteArray := prog_3_method_1_code
def yX1_init : MethodName := ⟨RX1, "<init>", "(I)V"⟩
def RX2 : String := "RankedSearch$Letters"
def TX2 : u_T := fun k => match k with
  | _ => ("", "", "", false)
def tyX2 : Nat → FieldType := fun k => match k with
  | _ => .int
theorem nmX2 : ∀ a, a < 0 → ∀ b, b < 0 → a ≠ b → (TX2 a).2.1 ≠ (TX2 b).2.1 := by decide +kernel
theorem tyX2_ok : ∀ k, k < 0 → parseFieldDescriptor (TX2 k).2.2.1 = some (tyX2 k) := by decide +kernel
abbrev cX2_letterOf : ByteArray := prog_4_method_2_code
def yX2_letterOf : MethodName := ⟨RX2, "letterOf", "(I)I"⟩
abbrev cX2_isLetter : ByteArray := prog_4_method_3_code
def yX2_isLetter : MethodName := ⟨RX2, "isLetter", "(I)Z"⟩
abbrev cX2_with : ByteArray := prog_4_method_4_code
def yX2_with : MethodName := ⟨RX2, "with", "(JII)J"⟩
abbrev cX2_lastWithBeginning : ByteArray := prog_4_method_5_code
def yX2_lastWithBeginning : MethodName := ⟨RX2, "lastWithBeginning", "(JI)J"⟩
abbrev cX2_firstLowest : ByteArray := prog_4_method_6_code
def yX2_firstLowest : MethodName := ⟨RX2, "firstLowest", "(J)J"⟩
def RX3 : String := "RankedSearch$Lexicon"
def TX3 : u_T := fun k => match k with
  | 0 => ("RankedSearch$Lexicon", "words", "Ljava/util/ArrayList;", true)
  | _ => ("RankedSearch$Lexicon", "spare", "LRankedSearch$Word;", false)
def tyX3 : Nat → FieldType := fun k => match k with
  | 0 => .object "java/util/ArrayList"
  | _ => .object "RankedSearch$Word"
theorem nmX3 : ∀ a, a < 2 → ∀ b, b < 2 → a ≠ b → (TX3 a).2.1 ≠ (TX3 b).2.1 := by decide +kernel
theorem tyX3_ok : ∀ k, k < 2 → parseFieldDescriptor (TX3 k).2.2.1 = some (tyX3 k) := by decide +kernel
abbrev cX3_init : ByteArray := prog_5_method_1_code
def yX3_init : MethodName := ⟨RX3, "<init>", "()V"⟩
abbrev cX3_size : ByteArray := prog_5_method_2_code
def yX3_size : MethodName := ⟨RX3, "size", "()I"⟩
abbrev cX3_wordAt : ByteArray := prog_5_method_3_code
def yX3_wordAt : MethodName := ⟨RX3, "wordAt", "(I)LRankedSearch$Word;"⟩
abbrev cX3_placeOf : ByteArray := prog_5_method_4_code
def yX3_placeOf : MethodName := ⟨RX3, "placeOf", "(J)I"⟩
abbrev cX3_wordOf : ByteArray := prog_5_method_5_code
def yX3_wordOf : MethodName := ⟨RX3, "wordOf", "(J)LRankedSearch$Word;"⟩
abbrev cX3_enter : ByteArray := prog_5_method_6_code
def yX3_enter : MethodName := ⟨RX3, "enter", "(J)LRankedSearch$Word;"⟩
abbrev cX3_strike : ByteArray := prog_5_method_7_code
def yX3_strike : MethodName := ⟨RX3, "strike", "(LRankedSearch$Word;)V"⟩
abbrev cX3_takeWord : ByteArray := prog_5_method_8_code
def yX3_takeWord : MethodName := ⟨RX3, "takeWord", "()LRankedSearch$Word;"⟩
def RX4 : String := "RankedSearch$Library"
def TX4 : u_T := fun k => match k with
  | 0 => ("RankedSearch$Library", "documents", "Ljava/util/ArrayList;", true)
  | 1 => ("RankedSearch$Library", "lexicon", "LRankedSearch$Lexicon;", true)
  | 2 => ("RankedSearch$Library", "wordsInAll", "I", false)
  | _ => ("RankedSearch$Library", "spare", "LRankedSearch$Posting;", false)
def tyX4 : Nat → FieldType := fun k => match k with
  | 0 => .object "java/util/ArrayList"
  | 1 => .object "RankedSearch$Lexicon"
  | 2 => .int
  | _ => .object "RankedSearch$Posting"
theorem nmX4 : ∀ a, a < 4 → ∀ b, b < 4 → a ≠ b → (TX4 a).2.1 ≠ (TX4 b).2.1 := by decide +kernel
theorem tyX4_ok : ∀ k, k < 4 → parseFieldDescriptor (TX4 k).2.2.1 = some (tyX4 k) := by decide +kernel
abbrev cX4_init : ByteArray := prog_6_method_1_code
def yX4_init : MethodName := ⟨RX4, "<init>", "()V"⟩
abbrev cX4_documentCount : ByteArray := prog_6_method_2_code
def yX4_documentCount : MethodName := ⟨RX4, "documentCount", "()I"⟩
abbrev cX4_documentOf : ByteArray := prog_6_method_3_code
def yX4_documentOf : MethodName := ⟨RX4, "documentOf", "(I)LRankedSearch$Document;"⟩
abbrev cX4_openDocument : ByteArray := prog_6_method_4_code
def yX4_openDocument : MethodName := ⟨RX4, "openDocument", "(I)LRankedSearch$Document;"⟩
abbrev cX4_removeDocument : ByteArray := prog_6_method_5_code
def yX4_removeDocument : MethodName := ⟨RX4, "removeDocument", "(I)Z"⟩
abbrev cX4_rewrite : ByteArray := prog_6_method_6_code
def yX4_rewrite : MethodName := ⟨RX4, "rewrite", "(LRankedSearch$Document;LRankedSearch$Tape;)V"⟩
abbrev cX4_rarity : ByteArray := prog_6_method_7_code
def yX4_rarity : MethodName := ⟨RX4, "rarity", "(LRankedSearch$Word;)I"⟩
abbrev cX4_documentAt : ByteArray := prog_6_method_8_code
def yX4_documentAt : MethodName := ⟨RX4, "documentAt", "(I)LRankedSearch$Document;"⟩
abbrev cX4_indexOf : ByteArray := prog_6_method_9_code
def yX4_indexOf : MethodName := ⟨RX4, "indexOf", "(I)I"⟩
abbrev cX4_count : ByteArray := prog_6_method_10_code
def yX4_count : MethodName := ⟨RX4, "count", "(LRankedSearch$Document;LRankedSearch$Word;)V"⟩
abbrev cX4_post : ByteArray := prog_6_method_11_code
def yX4_post : MethodName := ⟨RX4, "post", "(LRankedSearch$Document;LRankedSearch$Word;)LRankedSearch$Posting;"⟩
abbrev cX4_forgetWords : ByteArray := prog_6_method_12_code
def yX4_forgetWords : MethodName := ⟨RX4, "forgetWords", "(LRankedSearch$Document;)V"⟩
abbrev cX4_release : ByteArray := prog_6_method_13_code
def yX4_release : MethodName := ⟨RX4, "release", "(LRankedSearch$Posting;)V"⟩
abbrev cX4_takePosting : ByteArray := prog_6_method_14_code
def yX4_takePosting : MethodName := ⟨RX4, "takePosting", "()LRankedSearch$Posting;"⟩
def RX5 : String := "RankedSearch$Posting"
def TX5 : u_T := fun k => match k with
  | 0 => ("RankedSearch$Posting", "word", "LRankedSearch$Word;", false)
  | 1 => ("RankedSearch$Posting", "document", "LRankedSearch$Document;", false)
  | 2 => ("RankedSearch$Posting", "times", "I", false)
  | 3 => ("RankedSearch$Posting", "beforeInWord", "LRankedSearch$Posting;", false)
  | 4 => ("RankedSearch$Posting", "nextInWord", "LRankedSearch$Posting;", false)
  | _ => ("RankedSearch$Posting", "nextInDocument", "LRankedSearch$Posting;", false)
def tyX5 : Nat → FieldType := fun k => match k with
  | 0 => .object "RankedSearch$Word"
  | 1 => .object "RankedSearch$Document"
  | 2 => .int
  | 3 => .object "RankedSearch$Posting"
  | 4 => .object "RankedSearch$Posting"
  | _ => .object "RankedSearch$Posting"
theorem nmX5 : ∀ a, a < 6 → ∀ b, b < 6 → a ≠ b → (TX5 a).2.1 ≠ (TX5 b).2.1 := by decide +kernel
theorem tyX5_ok : ∀ k, k < 6 → parseFieldDescriptor (TX5 k).2.2.1 = some (tyX5 k) := by decide +kernel
abbrev cX5_init : ByteArray := prog_7_method_1_code
def yX5_init : MethodName := ⟨RX5, "<init>", "()V"⟩
abbrev cX5_impact : ByteArray := prog_7_method_2_code
def yX5_impact : MethodName := ⟨RX5, "impact", "()I"⟩
def RX6 : String := "RankedSearch$Query"
def TX6 : u_T := fun k => match k with
  | 0 => ("RankedSearch$Query", "terms", "[LRankedSearch$Term;", true)
  | 1 => ("RankedSearch$Query", "count", "I", false)
  | 2 => ("RankedSearch$Query", "term", "LRankedSearch$Term;", false)
  | 3 => ("RankedSearch$Query", "state", "I", false)
  | 4 => ("RankedSearch$Query", "faultKind", "I", false)
  | _ => ("RankedSearch$Query", "faultPlace", "I", false)
def tyX6 : Nat → FieldType := fun k => match k with
  | 0 => .array (.object "RankedSearch$Term")
  | 1 => .int
  | 2 => .object "RankedSearch$Term"
  | 3 => .int
  | 4 => .int
  | _ => .int
theorem nmX6 : ∀ a, a < 6 → ∀ b, b < 6 → a ≠ b → (TX6 a).2.1 ≠ (TX6 b).2.1 := by decide +kernel
theorem tyX6_ok : ∀ k, k < 6 → parseFieldDescriptor (TX6 k).2.2.1 = some (tyX6 k) := by decide +kernel
abbrev cX6_init : ByteArray := prog_8_method_1_code
def yX6_init : MethodName := ⟨RX6, "<init>", "()V"⟩
abbrev cX6_termAt : ByteArray := prog_8_method_2_code
def yX6_termAt : MethodName := ⟨RX6, "termAt", "(I)LRankedSearch$Term;"⟩
abbrev cX6_read : ByteArray := prog_8_method_3_code
def yX6_read : MethodName := ⟨RX6, "read", "(LRankedSearch$Tape;)V"⟩
abbrev cX6_note : ByteArray := prog_8_method_4_code
def yX6_note : MethodName := ⟨RX6, "note", "(II)V"⟩
abbrev cX6_take : ByteArray := prog_8_method_5_code
def yX6_take : MethodName := ⟨RX6, "take", "(I)I"⟩
abbrev cX6_takeBetweenTerms : ByteArray := prog_8_method_6_code
def yX6_takeBetweenTerms : MethodName := ⟨RX6, "takeBetweenTerms", "(I)I"⟩
abbrev cX6_takeLetter : ByteArray := prog_8_method_7_code
def yX6_takeLetter : MethodName := ⟨RX6, "takeLetter", "(I)I"⟩
abbrev cX6_takeBehindLetter : ByteArray := prog_8_method_8_code
def yX6_takeBehindLetter : MethodName := ⟨RX6, "takeBehindLetter", "(I)I"⟩
abbrev cX6_takeBehindStar : ByteArray := prog_8_method_9_code
def yX6_takeBehindStar : MethodName := ⟨RX6, "takeBehindStar", "(I)I"⟩
abbrev cX6_takeFigure : ByteArray := prog_8_method_10_code
def yX6_takeFigure : MethodName := ⟨RX6, "takeFigure", "(I)I"⟩
abbrev cX6_takeBlank : ByteArray := prog_8_method_11_code
def yX6_takeBlank : MethodName := ⟨RX6, "takeBlank", "(I)I"⟩
def RX7 : String := "RankedSearch$Search"
def TX7 : u_T := fun k => match k with
  | 0 => ("RankedSearch$Search", "firstMet", "LRankedSearch$Document;", false)
  | _ => ("RankedSearch$Search", "termsNeeded", "I", false)
def tyX7 : Nat → FieldType := fun k => match k with
  | 0 => .object "RankedSearch$Document"
  | _ => .int
theorem nmX7 : ∀ a, a < 2 → ∀ b, b < 2 → a ≠ b → (TX7 a).2.1 ≠ (TX7 b).2.1 := by decide +kernel
theorem tyX7_ok : ∀ k, k < 2 → parseFieldDescriptor (TX7 k).2.2.1 = some (tyX7 k) := by decide +kernel
abbrev cX7_init : ByteArray := prog_9_method_1_code
def yX7_init : MethodName := ⟨RX7, "<init>", "()V"⟩
abbrev cX7_suiting : ByteArray := prog_9_method_2_code
def yX7_suiting : MethodName := ⟨RX7, "suiting", "(LRankedSearch$Query;LRankedSearch$Library;LRankedSearch$Best;)V"⟩
abbrev cX7_resembling : ByteArray := prog_9_method_3_code
def yX7_resembling : MethodName := ⟨RX7, "resembling", "(LRankedSearch$Document;LRankedSearch$Library;LRankedSearch$Best;)V"⟩
abbrev cX7_follow : ByteArray := prog_9_method_4_code
def yX7_follow : MethodName := ⟨RX7, "follow", "(LRankedSearch$Term;ILRankedSearch$Library;)V"⟩
abbrev cX7_reward : ByteArray := prog_9_method_5_code
def yX7_reward : MethodName := ⟨RX7, "reward", "(LRankedSearch$Word;II)V"⟩
abbrev cX7_bar : ByteArray := prog_9_method_6_code
def yX7_bar : MethodName := ⟨RX7, "bar", "(LRankedSearch$Word;)V"⟩
abbrev cX7_meet : ByteArray := prog_9_method_7_code
def yX7_meet : MethodName := ⟨RX7, "meet", "(LRankedSearch$Document;)V"⟩
abbrev cX7_harvest : ByteArray := prog_9_method_8_code
def yX7_harvest : MethodName := ⟨RX7, "harvest", "(LRankedSearch$Best;)V"⟩
def RX8 : String := "RankedSearch$Tape"
def TX8 : u_T := fun k => match k with
  | 0 => ("RankedSearch$Tape", "bytes", "[B", true)
  | _ => ("RankedSearch$Tape", "length", "I", false)
def tyX8 : Nat → FieldType := fun k => match k with
  | 0 => .array .byte
  | _ => .int
theorem nmX8 : ∀ a, a < 2 → ∀ b, b < 2 → a ≠ b → (TX8 a).2.1 ≠ (TX8 b).2.1 := by decide +kernel
theorem tyX8_ok : ∀ k, k < 2 → parseFieldDescriptor (TX8 k).2.2.1 = some (tyX8 k) := by decide +kernel
abbrev cX8_init : ByteArray := prog_10_method_1_code
def yX8_init : MethodName := ⟨RX8, "<init>", "()V"⟩
abbrev cX8_length : ByteArray := prog_10_method_2_code
def yX8_length : MethodName := ⟨RX8, "length", "()I"⟩
abbrev cX8_empty : ByteArray := prog_10_method_3_code
def yX8_empty : MethodName := ⟨RX8, "empty", "()V"⟩
abbrev cX8_append : ByteArray := prog_10_method_4_code
def yX8_append : MethodName := ⟨RX8, "append", "(IJ)Z"⟩
abbrev cX8_byteAt : ByteArray := prog_10_method_5_code
def yX8_byteAt : MethodName := ⟨RX8, "byteAt", "(I)I"⟩
abbrev cX8_wordStart : ByteArray := prog_10_method_6_code
def yX8_wordStart : MethodName := ⟨RX8, "wordStart", "(I)I"⟩
abbrev cX8_wordEnd : ByteArray := prog_10_method_7_code
def yX8_wordEnd : MethodName := ⟨RX8, "wordEnd", "(I)I"⟩
abbrev cX8_lettersOf : ByteArray := prog_10_method_8_code
def yX8_lettersOf : MethodName := ⟨RX8, "lettersOf", "(II)J"⟩
def RX9 : String := "RankedSearch$Term"
def TX9 : u_T := fun k => match k with
  | 0 => ("RankedSearch$Term", "needed", "Z", false)
  | 1 => ("RankedSearch$Term", "unwanted", "Z", false)
  | 2 => ("RankedSearch$Term", "open", "Z", false)
  | 3 => ("RankedSearch$Term", "letters", "J", false)
  | 4 => ("RankedSearch$Term", "length", "I", false)
  | _ => ("RankedSearch$Term", "weight", "I", false)
def tyX9 : Nat → FieldType := fun k => match k with
  | 0 => .boolean
  | 1 => .boolean
  | 2 => .boolean
  | 3 => .long
  | 4 => .int
  | _ => .int
theorem nmX9 : ∀ a, a < 6 → ∀ b, b < 6 → a ≠ b → (TX9 a).2.1 ≠ (TX9 b).2.1 := by decide +kernel
theorem tyX9_ok : ∀ k, k < 6 → parseFieldDescriptor (TX9 k).2.2.1 = some (tyX9 k) := by decide +kernel
abbrev cX9_init : ByteArray := prog_11_method_1_code
def yX9_init : MethodName := ⟨RX9, "<init>", "()V"⟩
abbrev cX9_begin : ByteArray := prog_11_method_2_code
def yX9_begin : MethodName := ⟨RX9, "begin", "()V"⟩
abbrev cX9_append : ByteArray := prog_11_method_3_code
def yX9_append : MethodName := ⟨RX9, "append", "(I)Z"⟩
abbrev cX9_lastLetters : ByteArray := prog_11_method_4_code
def yX9_lastLetters : MethodName := ⟨RX9, "lastLetters", "()J"⟩
def RX10 : String := "RankedSearch$Word"
def TX10 : u_T := fun k => match k with
  | 0 => ("RankedSearch$Word", "letters", "J", false)
  | 1 => ("RankedSearch$Word", "holders", "I", false)
  | 2 => ("RankedSearch$Word", "total", "I", false)
  | 3 => ("RankedSearch$Word", "first", "LRankedSearch$Posting;", false)
  | _ => ("RankedSearch$Word", "nextSpare", "LRankedSearch$Word;", false)
def tyX10 : Nat → FieldType := fun k => match k with
  | 0 => .long
  | 1 => .int
  | 2 => .int
  | 3 => .object "RankedSearch$Posting"
  | _ => .object "RankedSearch$Word"
theorem nmX10 : ∀ a, a < 5 → ∀ b, b < 5 → a ≠ b → (TX10 a).2.1 ≠ (TX10 b).2.1 := by decide +kernel
theorem tyX10_ok : ∀ k, k < 5 → parseFieldDescriptor (TX10 k).2.2.1 = some (tyX10 k) := by decide +kernel
abbrev cX10_init : ByteArray := prog_12_method_1_code
def yX10_init : MethodName := ⟨RX10, "<init>", "()V"⟩
abbrev cX10_begin : ByteArray := prog_12_method_2_code
def yX10_begin : MethodName := ⟨RX10, "begin", "(J)V"⟩
abbrev cX10_link : ByteArray := prog_12_method_3_code
def yX10_link : MethodName := ⟨RX10, "link", "(LRankedSearch$Posting;)V"⟩
abbrev cX10_unlink : ByteArray := prog_12_method_4_code
def yX10_unlink : MethodName := ⟨RX10, "unlink", "(LRankedSearch$Posting;)V"⟩
def RX11 : String := "RankedSearch"
def TX11 : u_T := fun k => match k with
  | 0 => ("RankedSearch", "tape", "LRankedSearch$Tape;", true)
  | 1 => ("RankedSearch", "library", "LRankedSearch$Library;", true)
  | 2 => ("RankedSearch", "query", "LRankedSearch$Query;", true)
  | 3 => ("RankedSearch", "search", "LRankedSearch$Search;", true)
  | _ => ("RankedSearch", "best", "LRankedSearch$Best;", true)
def tyX11 : Nat → FieldType := fun k => match k with
  | 0 => .object "RankedSearch$Tape"
  | 1 => .object "RankedSearch$Library"
  | 2 => .object "RankedSearch$Query"
  | 3 => .object "RankedSearch$Search"
  | _ => .object "RankedSearch$Best"
theorem nmX11 : ∀ a, a < 5 → ∀ b, b < 5 → a ≠ b → (TX11 a).2.1 ≠ (TX11 b).2.1 := by decide +kernel
theorem tyX11_ok : ∀ k, k < 5 → parseFieldDescriptor (TX11 k).2.2.1 = some (tyX11 k) := by decide +kernel
abbrev cX11_init : ByteArray := prog_1_method_1_code
def yX11_init : MethodName := ⟨RX11, "<init>", "()V"⟩
abbrev cX11_feed : ByteArray := prog_1_method_2_code
def yX11_feed : MethodName := ⟨RX11, "feed", "(IJ)I"⟩
abbrev cX11_wipe : ByteArray := prog_1_method_3_code
def yX11_wipe : MethodName := ⟨RX11, "wipe", "()I"⟩
abbrev cX11_put : ByteArray := prog_1_method_4_code
def yX11_put : MethodName := ⟨RX11, "put", "(I)I"⟩
abbrev cX11_drop : ByteArray := prog_1_method_5_code
def yX11_drop : MethodName := ⟨RX11, "drop", "(I)Z"⟩
abbrev cX11_told : ByteArray := prog_1_method_6_code
def yX11_told : MethodName := ⟨RX11, "told", "(I)I"⟩
abbrev cX11_word : ByteArray := prog_1_method_7_code
def yX11_word : MethodName := ⟨RX11, "word", "(I)J"⟩
abbrev cX11_about : ByteArray := prog_1_method_8_code
def yX11_about : MethodName := ⟨RX11, "about", "(I)I"⟩
abbrev cX11_find : ByteArray := prog_1_method_9_code
def yX11_find : MethodName := ⟨RX11, "find", "(I)I"⟩
abbrev cX11_fault : ByteArray := prog_1_method_10_code
def yX11_fault : MethodName := ⟨RX11, "fault", "()I"⟩
abbrev cX11_place : ByteArray := prog_1_method_11_code
def yX11_place : MethodName := ⟨RX11, "place", "()I"⟩
abbrev cX11_similar : ByteArray := prog_1_method_12_code
def yX11_similar : MethodName := ⟨RX11, "similar", "(II)I"⟩
abbrev cX11_hit : ByteArray := prog_1_method_13_code
def yX11_hit : MethodName := ⟨RX11, "hit", "(I)I"⟩
abbrev cX11_score : ByteArray := prog_1_method_14_code
def yX11_score : MethodName := ⟨RX11, "score", "(I)I"⟩
abbrev cX11_requireNumber : ByteArray := prog_1_method_15_code
def yX11_requireNumber : MethodName := ⟨RX11, "requireNumber", "(I)V"⟩
abbrev cX11_requireFindable : ByteArray := prog_1_method_16_code
def yX11_requireFindable : MethodName := ⟨RX11, "requireFindable", "(I)V"⟩
def RX12 : String := "RankedSearchModel"
def TX12 : u_T := fun k => match k with
  | 0 => ("RankedSearchModel", "thrown", "I", false)
  | 1 => ("RankedSearchModel", "size", "I", false)
  | 2 => ("RankedSearchModel", "tape", "[I", true)
  | 3 => ("RankedSearchModel", "documents", "I", false)
  | 4 => ("RankedSearchModel", "number", "[I", true)
  | 5 => ("RankedSearchModel", "length", "[I", true)
  | 6 => ("RankedSearchModel", "words", "[J", true)
  | 7 => ("RankedSearchModel", "tapeWords", "I", false)
  | 8 => ("RankedSearchModel", "tapeWord", "[J", true)
  | 9 => ("RankedSearchModel", "terms", "I", false)
  | 10 => ("RankedSearchModel", "termWord", "[J", true)
  | 11 => ("RankedSearchModel", "termLetters", "[I", true)
  | 12 => ("RankedSearchModel", "open", "[Z", true)
  | 13 => ("RankedSearchModel", "sign", "[I", true)
  | 14 => ("RankedSearchModel", "weight", "[I", true)
  | 15 => ("RankedSearchModel", "at", "I", false)
  | 16 => ("RankedSearchModel", "fault", "I", false)
  | 17 => ("RankedSearchModel", "place", "I", false)
  | 18 => ("RankedSearchModel", "scores", "[I", true)
  | 19 => ("RankedSearchModel", "found", "I", false)
  | 20 => ("RankedSearchModel", "hitNumber", "[I", true)
  | 21 => ("RankedSearchModel", "hitScore", "[I", true)
  | 22 => ("RankedSearchModel", "isKnown", "Z", false)
  | 23 => ("RankedSearchModel", "firstAt", "[Z", true)
  | 24 => ("RankedSearchModel", "worthAt", "[I", true)
  | 25 => ("RankedSearchModel", "keys", "[J", true)
  | _ => ("RankedSearchModel", "having", "[I", true)
def tyX12 : Nat → FieldType := fun k => match k with
  | 0 => .int
  | 1 => .int
  | 2 => .array .int
  | 3 => .int
  | 4 => .array .int
  | 5 => .array .int
  | 6 => .array .long
  | 7 => .int
  | 8 => .array .long
  | 9 => .int
  | 10 => .array .long
  | 11 => .array .int
  | 12 => .array .boolean
  | 13 => .array .int
  | 14 => .array .int
  | 15 => .int
  | 16 => .int
  | 17 => .int
  | 18 => .array .int
  | 19 => .int
  | 20 => .array .int
  | 21 => .array .int
  | 22 => .boolean
  | 23 => .array .boolean
  | 24 => .array .int
  | 25 => .array .long
  | _ => .array .int
theorem nmX12 : ∀ a, a < 27 → ∀ b, b < 27 → a ≠ b → (TX12 a).2.1 ≠ (TX12 b).2.1 := by decide +kernel
theorem tyX12_ok : ∀ k, k < 27 → parseFieldDescriptor (TX12 k).2.2.1 = some (tyX12 k) := by decide +kernel
abbrev cX12_init : ByteArray := prog_14_method_1_code
def yX12_init : MethodName := ⟨RX12, "<init>", "()V"⟩
abbrev cX12_thrown : ByteArray := prog_14_method_2_code
def yX12_thrown : MethodName := ⟨RX12, "thrown", "()I"⟩
abbrev cX12_letterOf : ByteArray := prog_14_method_3_code
def yX12_letterOf : MethodName := ⟨RX12, "letterOf", "(I)I"⟩
abbrev cX12_with : ByteArray := prog_14_method_4_code
def yX12_with : MethodName := ⟨RX12, "with", "(JII)J"⟩
abbrev cX12_begins : ByteArray := prog_14_method_5_code
def yX12_begins : MethodName := ⟨RX12, "begins", "(JJI)Z"⟩
abbrev cX12_readWords : ByteArray := prog_14_method_6_code
def yX12_readWords : MethodName := ⟨RX12, "readWords", "()V"⟩
abbrev cX12_placeOf : ByteArray := prog_14_method_7_code
def yX12_placeOf : MethodName := ⟨RX12, "placeOf", "(I)I"⟩
abbrev cX12_times : ByteArray := prog_14_method_8_code
def yX12_times : MethodName := ⟨RX12, "times", "(IJ)I"⟩
abbrev cX12_impact : ByteArray := prog_14_method_9_code
def yX12_impact : MethodName := ⟨RX12, "impact", "(IJ)I"⟩
abbrev cX12_spot : ByteArray := prog_14_method_10_code
def yX12_spot : MethodName := ⟨RX12, "spot", "(J)I"⟩
abbrev cX12_know : ByteArray := prog_14_method_11_code
def yX12_know : MethodName := ⟨RX12, "know", "()V"⟩
abbrev cX12_having : ByteArray := prog_14_method_12_code
def yX12_having : MethodName := ⟨RX12, "having", "(J)I"⟩
abbrev cX12_rarity : ByteArray := prog_14_method_13_code
def yX12_rarity : MethodName := ⟨RX12, "rarity", "(J)I"⟩
abbrev cX12_digitsOf : ByteArray := prog_14_method_14_code
def yX12_digitsOf : MethodName := ⟨RX12, "digitsOf", "(I)I"⟩
abbrev cX12_isFirst : ByteArray := prog_14_method_15_code
def yX12_isFirst : MethodName := ⟨RX12, "isFirst", "(II)Z"⟩
abbrev cX12_remove : ByteArray := prog_14_method_16_code
def yX12_remove : MethodName := ⟨RX12, "remove", "(I)V"⟩
abbrev cX12_feed : ByteArray := prog_14_method_17_code
def yX12_feed : MethodName := ⟨RX12, "feed", "(IJ)I"⟩
abbrev cX12_wipe : ByteArray := prog_14_method_18_code
def yX12_wipe : MethodName := ⟨RX12, "wipe", "()I"⟩
abbrev cX12_isNumber : ByteArray := prog_14_method_19_code
def yX12_isNumber : MethodName := ⟨RX12, "isNumber", "(I)Z"⟩
abbrev cX12_put : ByteArray := prog_14_method_20_code
def yX12_put : MethodName := ⟨RX12, "put", "(I)I"⟩
abbrev cX12_drop : ByteArray := prog_14_method_21_code
def yX12_drop : MethodName := ⟨RX12, "drop", "(I)Z"⟩
abbrev cX12_nextWord : ByteArray := prog_14_method_22_code
def yX12_nextWord : MethodName := ⟨RX12, "nextWord", "(J)J"⟩
abbrev cX12_told : ByteArray := prog_14_method_23_code
def yX12_told : MethodName := ⟨RX12, "told", "(I)I"⟩
abbrev cX12_word : ByteArray := prog_14_method_24_code
def yX12_word : MethodName := ⟨RX12, "word", "(I)J"⟩
abbrev cX12_about : ByteArray := prog_14_method_25_code
def yX12_about : MethodName := ⟨RX12, "about", "(I)I"⟩
abbrev cX12_byteAt : ByteArray := prog_14_method_26_code
def yX12_byteAt : MethodName := ⟨RX12, "byteAt", "(I)I"⟩
abbrev cX12_isBlank : ByteArray := prog_14_method_27_code
def yX12_isBlank : MethodName := ⟨RX12, "isBlank", "()Z"⟩
abbrev cX12_skip : ByteArray := prog_14_method_28_code
def yX12_skip : MethodName := ⟨RX12, "skip", "()V"⟩
abbrev cX12_bad : ByteArray := prog_14_method_29_code
def yX12_bad : MethodName := ⟨RX12, "bad", "(ZI)Z"⟩
abbrev cX12_isTermBad : ByteArray := prog_14_method_30_code
def yX12_isTermBad : MethodName := ⟨RX12, "isTermBad", "()Z"⟩
abbrev cX12_isTermStart : ByteArray := prog_14_method_31_code
def yX12_isTermStart : MethodName := ⟨RX12, "isTermStart", "()Z"⟩
abbrev cX12_isQuery : ByteArray := prog_14_method_32_code
def yX12_isQuery : MethodName := ⟨RX12, "isQuery", "()Z"⟩
abbrev cX12_stands : ByteArray := prog_14_method_33_code
def yX12_stands : MethodName := ⟨RX12, "stands", "(IJ)Z"⟩
abbrev cX12_scoreOf : ByteArray := prog_14_method_34_code
def yX12_scoreOf : MethodName := ⟨RX12, "scoreOf", "(I)I"⟩
abbrev cX12_pick : ByteArray := prog_14_method_35_code
def yX12_pick : MethodName := ⟨RX12, "pick", "(II)I"⟩
abbrev cX12_find : ByteArray := prog_14_method_36_code
def yX12_find : MethodName := ⟨RX12, "find", "(I)I"⟩
abbrev cX12_fault : ByteArray := prog_14_method_37_code
def yX12_fault : MethodName := ⟨RX12, "fault", "()I"⟩
abbrev cX12_place : ByteArray := prog_14_method_38_code
def yX12_place : MethodName := ⟨RX12, "place", "()I"⟩
abbrev cX12_similar : ByteArray := prog_14_method_39_code
def yX12_similar : MethodName := ⟨RX12, "similar", "(II)I"⟩
abbrev cX12_hit : ByteArray := prog_14_method_40_code
def yX12_hit : MethodName := ⟨RX12, "hit", "(I)I"⟩
abbrev cX12_score : ByteArray := prog_14_method_41_code
def yX12_score : MethodName := ⟨RX12, "score", "(I)I"⟩
def RJx145de : String := "java/io/Serializable"
def TJx145de : u_T := fun k => match k with
  | _ => ("", "", "", false)
def tyJx145de : Nat → FieldType := fun k => match k with
  | _ => .int
theorem nmJx145de : ∀ a, a < 0 → ∀ b, b < 0 → a ≠ b → (TJx145de a).2.1 ≠ (TJx145de b).2.1 := by decide +kernel
theorem tyJx145de_ok : ∀ k, k < 0 → parseFieldDescriptor (TJx145de k).2.2.1 = some (tyJx145de k) := by decide +kernel
def RJ5 : String := "java/lang/AbstractStringBuilder"
def TJ5 : u_T := fun k => match k with
  | _ => ("", "", "", false)
def tyJ5 : Nat → FieldType := fun k => match k with
  | _ => .int
theorem nmJ5 : ∀ a, a < 0 → ∀ b, b < 0 → a ≠ b → (TJ5 a).2.1 ≠ (TJ5 b).2.1 := by decide +kernel
theorem tyJ5_ok : ∀ k, k < 0 → parseFieldDescriptor (TJ5 k).2.2.1 = some (tyJ5 k) := by decide +kernel
abbrev cJ5_init_d00df : ByteArray := prog_16_method_2_code
def yJ5_init_d00df : MethodName := ⟨RJ5, "<init>", "(I)V"⟩
abbrev cJ5_length_8abf5 : ByteArray := prog_16_method_6_code
def yJ5_length_8abf5 : MethodName := ⟨RJ5, "length", "()I"⟩
abbrev cJ5_ensureCapacityInternal_d00df : ByteArray := prog_16_method_9_code
def yJ5_ensureCapacityInternal_d00df : MethodName := ⟨RJ5, "ensureCapacityInternal", "(I)V"⟩
abbrev cJ5_newCapacity_0f7a4 : ByteArray := prog_16_method_10_code
def yJ5_newCapacity_0f7a4 : MethodName := ⟨RJ5, "newCapacity", "(I)I"⟩
abbrev cJ5_inflate_da8c8 : ByteArray := prog_16_method_11_code
def yJ5_inflate_da8c8 : MethodName := ⟨RJ5, "inflate", "()V"⟩
abbrev cJ5_append_cf1ce : ByteArray := prog_16_method_22_code
def yJ5_append_cf1ce : MethodName := ⟨RJ5, "append", "(Ljava/lang/String;)Ljava/lang/AbstractStringBuilder;"⟩
abbrev cJ5_appendNull_278bc : ByteArray := prog_16_method_26_code
def yJ5_appendNull_278bc : MethodName := ⟨RJ5, "appendNull", "()Ljava/lang/AbstractStringBuilder;"⟩
abbrev cJ5_append_c97b9 : ByteArray := prog_16_method_32_code
def yJ5_append_c97b9 : MethodName := ⟨RJ5, "append", "(I)Ljava/lang/AbstractStringBuilder;"⟩
abbrev cJ5_getValue_6d5f1 : ByteArray := prog_16_method_64_code
def yJ5_getValue_6d5f1 : MethodName := ⟨RJ5, "getValue", "()[B"⟩
abbrev cJ5_isLatin1_aae02 : ByteArray := prog_16_method_68_code
def yJ5_isLatin1_aae02 : MethodName := ⟨RJ5, "isLatin1", "()Z"⟩
abbrev cJ5_inflateIfNeededFor_a7421 : ByteArray := prog_16_method_71_code
def yJ5_inflateIfNeededFor_a7421 : MethodName := ⟨RJ5, "inflateIfNeededFor", "(Ljava/lang/String;)V"⟩
abbrev cJ5_putStringAt_47b60 : ByteArray := prog_16_method_73_code
def yJ5_putStringAt_47b60 : MethodName := ⟨RJ5, "putStringAt", "(ILjava/lang/String;)V"⟩
def RJx2cfe8 : String := "java/lang/Appendable"
def TJx2cfe8 : u_T := fun k => match k with
  | _ => ("", "", "", false)
def tyJx2cfe8 : Nat → FieldType := fun k => match k with
  | _ => .int
theorem nmJx2cfe8 : ∀ a, a < 0 → ∀ b, b < 0 → a ≠ b → (TJx2cfe8 a).2.1 ≠ (TJx2cfe8 b).2.1 := by decide +kernel
theorem tyJx2cfe8_ok : ∀ k, k < 0 → parseFieldDescriptor (TJx2cfe8 k).2.2.1 = some (tyJx2cfe8 k) := by decide +kernel
def RJx9f9b0 : String := "java/lang/CharSequence"
def TJx9f9b0 : u_T := fun k => match k with
  | _ => ("", "", "", false)
def tyJx9f9b0 : Nat → FieldType := fun k => match k with
  | _ => .int
theorem nmJx9f9b0 : ∀ a, a < 0 → ∀ b, b < 0 → a ≠ b → (TJx9f9b0 a).2.1 ≠ (TJx9f9b0 b).2.1 := by decide +kernel
theorem tyJx9f9b0_ok : ∀ k, k < 0 → parseFieldDescriptor (TJx9f9b0 k).2.2.1 = some (tyJx9f9b0 k) := by decide +kernel
def RJx8e188 : String := "java/lang/Cloneable"
def TJx8e188 : u_T := fun k => match k with
  | _ => ("", "", "", false)
def tyJx8e188 : Nat → FieldType := fun k => match k with
  | _ => .int
theorem nmJx8e188 : ∀ a, a < 0 → ∀ b, b < 0 → a ≠ b → (TJx8e188 a).2.1 ≠ (TJx8e188 b).2.1 := by decide +kernel
theorem tyJx8e188_ok : ∀ k, k < 0 → parseFieldDescriptor (TJx8e188 k).2.2.1 = some (tyJx8e188 k) := by decide +kernel
def RJxb160c : String := "java/lang/Comparable"
def TJxb160c : u_T := fun k => match k with
  | _ => ("", "", "", false)
def tyJxb160c : Nat → FieldType := fun k => match k with
  | _ => .int
theorem nmJxb160c : ∀ a, a < 0 → ∀ b, b < 0 → a ≠ b → (TJxb160c a).2.1 ≠ (TJxb160c b).2.1 := by decide +kernel
theorem tyJxb160c_ok : ∀ k, k < 0 → parseFieldDescriptor (TJxb160c k).2.2.1 = some (tyJxb160c k) := by decide +kernel
def RJ6 : String := "java/lang/Integer"
def TJ6 : u_T := fun k => match k with
  | _ => ("", "", "", false)
def tyJ6 : Nat → FieldType := fun k => match k with
  | _ => .int
theorem nmJ6 : ∀ a, a < 0 → ∀ b, b < 0 → a ≠ b → (TJ6 a).2.1 ≠ (TJ6 b).2.1 := by decide +kernel
theorem tyJ6_ok : ∀ k, k < 0 → parseFieldDescriptor (TJ6 k).2.2.1 = some (tyJ6 k) := by decide +kernel
abbrev cJ6_getChars_ba4f3 : ByteArray := prog_24_method_12_code
def yJ6_getChars_ba4f3 : MethodName := ⟨RJ6, "getChars", "(II[B)I"⟩
abbrev cJ6_stringSize_0f7a4 : ByteArray := prog_24_method_13_code
def yJ6_stringSize_0f7a4 : MethodName := ⟨RJ6, "stringSize", "(I)I"⟩
def RJxab1ab : String := "java/lang/Iterable"
def TJxab1ab : u_T := fun k => match k with
  | _ => ("", "", "", false)
def tyJxab1ab : Nat → FieldType := fun k => match k with
  | _ => .int
theorem nmJxab1ab : ∀ a, a < 0 → ∀ b, b < 0 → a ≠ b → (TJxab1ab a).2.1 ≠ (TJxab1ab b).2.1 := by decide +kernel
theorem tyJxab1ab_ok : ∀ k, k < 0 → parseFieldDescriptor (TJxab1ab k).2.2.1 = some (tyJxab1ab k) := by decide +kernel
def RJ9 : String := "java/lang/Math"
def TJ9 : u_T := fun k => match k with
  | _ => ("", "", "", false)
def tyJ9 : Nat → FieldType := fun k => match k with
  | _ => .int
theorem nmJ9 : ∀ a, a < 0 → ∀ b, b < 0 → a ≠ b → (TJ9 a).2.1 ≠ (TJ9 b).2.1 := by decide +kernel
theorem tyJ9_ok : ∀ k, k < 0 → parseFieldDescriptor (TJ9 k).2.2.1 = some (tyJ9 k) := by decide +kernel
abbrev cJ9_max_7cf53 : ByteArray := prog_26_method_65_code
def yJ9_max_7cf53 : MethodName := ⟨RJ9, "max", "(II)I"⟩
abbrev cJ9_min_7cf53 : ByteArray := prog_26_method_69_code
def yJ9_min_7cf53 : MethodName := ⟨RJ9, "min", "(II)I"⟩
def RJxd2413 : String := "java/lang/Number"
def TJxd2413 : u_T := fun k => match k with
  | _ => ("", "", "", false)
def tyJxd2413 : Nat → FieldType := fun k => match k with
  | _ => .int
theorem nmJxd2413 : ∀ a, a < 0 → ∀ b, b < 0 → a ≠ b → (TJxd2413 a).2.1 ≠ (TJxd2413 b).2.1 := by decide +kernel
theorem tyJxd2413_ok : ∀ k, k < 0 → parseFieldDescriptor (TJxd2413 k).2.2.1 = some (tyJxd2413 k) := by decide +kernel
def RJ0 : String := "java/lang/String"
def TJ0 : u_T := fun k => match k with
  | 0 => ("java/lang/String", "value", "[B", true)
  | 1 => ("java/lang/String", "coder", "B", true)
  | 2 => ("java/lang/String", "hash", "I", false)
  | _ => ("java/lang/String", "hashIsZero", "Z", false)
def tyJ0 : Nat → FieldType := fun k => match k with
  | 0 => .array .byte
  | 1 => .byte
  | 2 => .int
  | _ => .boolean
theorem nmJ0 : ∀ a, a < 4 → ∀ b, b < 4 → a ≠ b → (TJ0 a).2.1 ≠ (TJ0 b).2.1 := by decide +kernel
theorem tyJ0_ok : ∀ k, k < 4 → parseFieldDescriptor (TJ0 k).2.2.1 = some (tyJ0 k) := by decide +kernel
abbrev cJ0_init_81219 : ByteArray := prog_29_method_53_code
def yJ0_init_81219 : MethodName := ⟨RJ0, "<init>", "(Ljava/lang/StringBuilder;)V"⟩
abbrev cJ0_length_8abf5 : ByteArray := prog_29_method_54_code
def yJ0_length_8abf5 : MethodName := ⟨RJ0, "length", "()I"⟩
abbrev cJ0_getBytes_840e7 : ByteArray := prog_29_method_147_code
def yJ0_getBytes_840e7 : MethodName := ⟨RJ0, "getBytes", "([BIB)V"⟩
abbrev cJ0_init_db425 : ByteArray := prog_29_method_150_code
def yJ0_init_db425 : MethodName := ⟨RJ0, "<init>", "(Ljava/lang/AbstractStringBuilder;Ljava/lang/Void;)V"⟩
abbrev cJ0_coder_7d493 : ByteArray := prog_29_method_152_code
def yJ0_coder_7d493 : MethodName := ⟨RJ0, "coder", "()B"⟩
abbrev cJ0_checkBoundsOffCount_cabcc : ByteArray := prog_29_method_157_code
def yJ0_checkBoundsOffCount_cabcc : MethodName := ⟨RJ0, "checkBoundsOffCount", "(III)I"⟩
abbrev cJ0_checkBoundsBeginEnd_23922 : ByteArray := prog_29_method_158_code
def yJ0_checkBoundsBeginEnd_23922 : MethodName := ⟨RJ0, "checkBoundsBeginEnd", "(III)V"⟩
def RJ4 : String := "java/lang/StringBuilder"
def TJ4 : u_T := fun k => match k with
  | 0 => ("java/lang/AbstractStringBuilder", "value", "[B", false)
  | 1 => ("java/lang/AbstractStringBuilder", "coder", "B", false)
  | 2 => ("java/lang/AbstractStringBuilder", "maybeLatin1", "Z", false)
  | _ => ("java/lang/AbstractStringBuilder", "count", "I", false)
def tyJ4 : Nat → FieldType := fun k => match k with
  | 0 => .array .byte
  | 1 => .byte
  | 2 => .boolean
  | _ => .int
theorem nmJ4 : ∀ a, a < 4 → ∀ b, b < 4 → a ≠ b → (TJ4 a).2.1 ≠ (TJ4 b).2.1 := by decide +kernel
theorem tyJ4_ok : ∀ k, k < 4 → parseFieldDescriptor (TJ4 k).2.2.1 = some (tyJ4 k) := by decide +kernel
abbrev cJ4_init_da8c8 : ByteArray := prog_30_method_1_code
def yJ4_init_da8c8 : MethodName := ⟨RJ4, "<init>", "()V"⟩
abbrev cJ4_append_15ec4 : ByteArray := prog_30_method_7_code
def yJ4_append_15ec4 : MethodName := ⟨RJ4, "append", "(Ljava/lang/String;)Ljava/lang/StringBuilder;"⟩
abbrev cJ4_append_bf812 : ByteArray := prog_30_method_15_code
def yJ4_append_bf812 : MethodName := ⟨RJ4, "append", "(I)Ljava/lang/StringBuilder;"⟩
abbrev cJ4_toString_0e30d : ByteArray := prog_30_method_42_code
def yJ4_toString_0e30d : MethodName := ⟨RJ4, "toString", "()Ljava/lang/String;"⟩
abbrev cJ4_length_8abf5 : ByteArray := prog_30_method_93_code
def yJ4_length_8abf5 : MethodName := ⟨RJ4, "length", "()I"⟩
def RJ1 : String := "java/lang/StringLatin1"
def TJ1 : u_T := fun k => match k with
  | _ => ("", "", "", false)
def tyJ1 : Nat → FieldType := fun k => match k with
  | _ => .int
theorem nmJ1 : ∀ a, a < 0 → ∀ b, b < 0 → a ≠ b → (TJ1 a).2.1 ≠ (TJ1 b).2.1 := by decide +kernel
theorem tyJ1_ok : ∀ k, k < 0 → parseFieldDescriptor (TJ1 k).2.2.1 = some (tyJ1 k) := by decide +kernel
abbrev cJ1_inflate_0e8fd : ByteArray := prog_31_method_50_code
def yJ1_inflate_0e8fd : MethodName := ⟨RJ1, "inflate", "([BI[BII)V"⟩
def RJ2 : String := "java/lang/StringUTF16"
def TJ2 : u_T := fun k => match k with
  | _ => ("", "", "", false)
def tyJ2 : Nat → FieldType := fun k => match k with
  | _ => .int
theorem nmJ2 : ∀ a, a < 0 → ∀ b, b < 0 → a ≠ b → (TJ2 a).2.1 ≠ (TJ2 b).2.1 := by decide +kernel
theorem tyJ2_ok : ∀ k, k < 0 → parseFieldDescriptor (TJ2 k).2.2.1 = some (tyJ2 k) := by decide +kernel
abbrev cJ2_newBytesFor_77867 : ByteArray := prog_32_method_2_code
def yJ2_newBytesFor_77867 : MethodName := ⟨RJ2, "newBytesFor", "(I)[B"⟩
abbrev cJ2_newBytesLength_0f7a4 : ByteArray := prog_32_method_3_code
def yJ2_newBytesLength_0f7a4 : MethodName := ⟨RJ2, "newBytesLength", "(I)I"⟩
abbrev cJ2_putChar_b72d1 : ByteArray := prog_32_method_4_code
def yJ2_putChar_b72d1 : MethodName := ⟨RJ2, "putChar", "([BII)V"⟩
abbrev cJ2_getChar_3b067 : ByteArray := prog_32_method_5_code
def yJ2_getChar_3b067 : MethodName := ⟨RJ2, "getChar", "([BI)C"⟩
abbrev cJ2_length_9d52b : ByteArray := prog_32_method_6_code
def yJ2_length_9d52b : MethodName := ⟨RJ2, "length", "([B)I"⟩
abbrev cJ2_coderFromArrayLen_85cad : ByteArray := prog_32_method_15_code
def yJ2_coderFromArrayLen_85cad : MethodName := ⟨RJ2, "coderFromArrayLen", "([BI)B"⟩
abbrev cJ2_compress_39247 : ByteArray := prog_32_method_17_code
def yJ2_compress_39247 : MethodName := ⟨RJ2, "compress", "([BII)[B"⟩
abbrev cJ2_compress_5af95 : ByteArray := prog_32_method_22_code
def yJ2_compress_5af95 : MethodName := ⟨RJ2, "compress", "([BI[BII)I"⟩
abbrev cJ2_getChars_46870 : ByteArray := prog_32_method_77_code
def yJ2_getChars_46870 : MethodName := ⟨RJ2, "getChars", "(III[B)I"⟩
abbrev cJ2_putCharsAt_cd4e5 : ByteArray := prog_32_method_81_code
def yJ2_putCharsAt_cd4e5 : MethodName := ⟨RJ2, "putCharsAt", "([BICCCC)I"⟩
abbrev cJ2_inflate_0e8fd : ByteArray := prog_32_method_86_code
def yJ2_inflate_0e8fd : MethodName := ⟨RJ2, "inflate", "([BI[BII)V"⟩
abbrev cJ2_getChars_ba4f3 : ByteArray := prog_32_method_89_code
def yJ2_getChars_ba4f3 : MethodName := ⟨RJ2, "getChars", "(II[B)I"⟩
abbrev cJ2_checkBoundsBeginEnd_d044e : ByteArray := prog_32_method_93_code
def yJ2_checkBoundsBeginEnd_d044e : MethodName := ⟨RJ2, "checkBoundsBeginEnd", "(II[B)V"⟩
abbrev cJ2_checkBoundsOffCount_d044e : ByteArray := prog_32_method_94_code
def yJ2_checkBoundsOffCount_d044e : MethodName := ⟨RJ2, "checkBoundsOffCount", "(II[B)V"⟩
def RJ10 : String := "java/lang/System"
def TJ10 : u_T := fun k => match k with
  | _ => ("", "", "", false)
def tyJ10 : Nat → FieldType := fun k => match k with
  | _ => .int
theorem nmJ10 : ∀ a, a < 0 → ∀ b, b < 0 → a ≠ b → (TJ10 a).2.1 ≠ (TJ10 b).2.1 := by decide +kernel
theorem tyJ10_ok : ∀ k, k < 0 → parseFieldDescriptor (TJ10 k).2.2.1 = some (tyJ10 k) := by decide +kernel
def RJxfd54e : String := "java/lang/constant/Constable"
def TJxfd54e : u_T := fun k => match k with
  | _ => ("", "", "", false)
def tyJxfd54e : Nat → FieldType := fun k => match k with
  | _ => .int
theorem nmJxfd54e : ∀ a, a < 0 → ∀ b, b < 0 → a ≠ b → (TJxfd54e a).2.1 ≠ (TJxfd54e b).2.1 := by decide +kernel
theorem tyJxfd54e_ok : ∀ k, k < 0 → parseFieldDescriptor (TJxfd54e k).2.2.1 = some (tyJxfd54e k) := by decide +kernel
def RJx3cf43 : String := "java/lang/constant/ConstantDesc"
def TJx3cf43 : u_T := fun k => match k with
  | _ => ("", "", "", false)
def tyJx3cf43 : Nat → FieldType := fun k => match k with
  | _ => .int
theorem nmJx3cf43 : ∀ a, a < 0 → ∀ b, b < 0 → a ≠ b → (TJx3cf43 a).2.1 ≠ (TJx3cf43 b).2.1 := by decide +kernel
theorem tyJx3cf43_ok : ∀ k, k < 0 → parseFieldDescriptor (TJx3cf43 k).2.2.1 = some (tyJx3cf43 k) := by decide +kernel
def RJxa1e45 : String := "java/util/AbstractCollection"
def TJxa1e45 : u_T := fun k => match k with
  | _ => ("", "", "", false)
def tyJxa1e45 : Nat → FieldType := fun k => match k with
  | _ => .int
theorem nmJxa1e45 : ∀ a, a < 0 → ∀ b, b < 0 → a ≠ b → (TJxa1e45 a).2.1 ≠ (TJxa1e45 b).2.1 := by decide +kernel
theorem tyJxa1e45_ok : ∀ k, k < 0 → parseFieldDescriptor (TJxa1e45 k).2.2.1 = some (tyJxa1e45 k) := by decide +kernel
abbrev cJxa1e45_init_da8c8 : ByteArray := prog_37_method_1_code
def yJxa1e45_init_da8c8 : MethodName := ⟨RJxa1e45, "<init>", "()V"⟩
def RJxc12de : String := "java/util/AbstractList"
def TJxc12de : u_T := fun k => match k with
  | _ => ("", "", "", false)
def tyJxc12de : Nat → FieldType := fun k => match k with
  | _ => .int
theorem nmJxc12de : ∀ a, a < 0 → ∀ b, b < 0 → a ≠ b → (TJxc12de a).2.1 ≠ (TJxc12de b).2.1 := by decide +kernel
theorem tyJxc12de_ok : ∀ k, k < 0 → parseFieldDescriptor (TJxc12de k).2.2.1 = some (tyJxc12de k) := by decide +kernel
abbrev cJxc12de_init_da8c8 : ByteArray := prog_38_method_1_code
def yJxc12de_init_da8c8 : MethodName := ⟨RJxc12de, "<init>", "()V"⟩
def RJx4a65c : String := "java/util/ArrayList"
def TJx4a65c : u_T := fun k => match k with
  | 0 => ("java/util/AbstractList", "modCount", "I", false)
  | 1 => ("java/util/ArrayList", "elementData", "[Ljava/lang/Object;", false)
  | _ => ("java/util/ArrayList", "size", "I", false)
def tyJx4a65c : Nat → FieldType := fun k => match k with
  | 0 => .int
  | 1 => .array (.object "java/lang/Object")
  | _ => .int
theorem nmJx4a65c : ∀ a, a < 3 → ∀ b, b < 3 → a ≠ b → (TJx4a65c a).2.1 ≠ (TJx4a65c b).2.1 := by decide +kernel
theorem tyJx4a65c_ok : ∀ k, k < 3 → parseFieldDescriptor (TJx4a65c k).2.2.1 = some (tyJx4a65c k) := by decide +kernel
abbrev cJx4a65c_init_da8c8 : ByteArray := prog_39_method_2_code
def yJx4a65c_init_da8c8 : MethodName := ⟨RJx4a65c, "<init>", "()V"⟩
abbrev cJx4a65c_grow_92f84 : ByteArray := prog_39_method_6_code
def yJx4a65c_grow_92f84 : MethodName := ⟨RJx4a65c, "grow", "(I)[Ljava/lang/Object;"⟩
abbrev cJx4a65c_grow_d5877 : ByteArray := prog_39_method_7_code
def yJx4a65c_grow_d5877 : MethodName := ⟨RJx4a65c, "grow", "()[Ljava/lang/Object;"⟩
abbrev cJx4a65c_size_8abf5 : ByteArray := prog_39_method_8_code
def yJx4a65c_size_8abf5 : MethodName := ⟨RJx4a65c, "size", "()I"⟩
abbrev cJx4a65c_elementData_915e3 : ByteArray := prog_39_method_18_code
def yJx4a65c_elementData_915e3 : MethodName := ⟨RJx4a65c, "elementData", "(I)Ljava/lang/Object;"⟩
abbrev cJx4a65c_get_915e3 : ByteArray := prog_39_method_20_code
def yJx4a65c_get_915e3 : MethodName := ⟨RJx4a65c, "get", "(I)Ljava/lang/Object;"⟩
abbrev cJx4a65c_add_72be8 : ByteArray := prog_39_method_24_code
def yJx4a65c_add_72be8 : MethodName := ⟨RJx4a65c, "add", "(Ljava/lang/Object;[Ljava/lang/Object;I)V"⟩
abbrev cJx4a65c_add_9ea2d : ByteArray := prog_39_method_25_code
def yJx4a65c_add_9ea2d : MethodName := ⟨RJx4a65c, "add", "(Ljava/lang/Object;)Z"⟩
abbrev cJx4a65c_add_7a177 : ByteArray := prog_39_method_26_code
def yJx4a65c_add_7a177 : MethodName := ⟨RJx4a65c, "add", "(ILjava/lang/Object;)V"⟩
abbrev cJx4a65c_remove_915e3 : ByteArray := prog_39_method_29_code
def yJx4a65c_remove_915e3 : MethodName := ⟨RJx4a65c, "remove", "(I)Ljava/lang/Object;"⟩
abbrev cJx4a65c_fastRemove_b59b0 : ByteArray := prog_39_method_39_code
def yJx4a65c_fastRemove_b59b0 : MethodName := ⟨RJx4a65c, "fastRemove", "([Ljava/lang/Object;I)V"⟩
abbrev cJx4a65c_rangeCheckForAdd_d00df : ByteArray := prog_39_method_45_code
def yJx4a65c_rangeCheckForAdd_d00df : MethodName := ⟨RJx4a65c, "rangeCheckForAdd", "(I)V"⟩
abbrev cJx4a65c_outOfBoundsMsg_b52d3 : ByteArray := prog_39_method_46_code
def yJx4a65c_outOfBoundsMsg_b52d3 : MethodName := ⟨RJx4a65c, "outOfBoundsMsg", "(I)Ljava/lang/String;"⟩
def RJ7 : String := "java/util/Arrays"
def TJ7 : u_T := fun k => match k with
  | _ => ("", "", "", false)
def tyJ7 : Nat → FieldType := fun k => match k with
  | _ => .int
theorem nmJ7 : ∀ a, a < 0 → ∀ b, b < 0 → a ≠ b → (TJ7 a).2.1 ≠ (TJ7 b).2.1 := by decide +kernel
theorem tyJ7_ok : ∀ k, k < 0 → parseFieldDescriptor (TJ7 k).2.2.1 = some (tyJ7 k) := by decide +kernel
abbrev cJ7_copyOf_1904c : ByteArray := prog_40_method_119_code
def yJ7_copyOf_1904c : MethodName := ⟨RJ7, "copyOf", "([Ljava/lang/Object;I)[Ljava/lang/Object;"⟩
abbrev cJ7_copyOf_6403c : ByteArray := prog_40_method_120_code
def yJ7_copyOf_6403c : MethodName := ⟨RJ7, "copyOf", "([Ljava/lang/Object;ILjava/lang/Class;)[Ljava/lang/Object;"⟩
abbrev cJ7_copyOf_9075b : ByteArray := prog_40_method_121_code
def yJ7_copyOf_9075b : MethodName := ⟨RJ7, "copyOf", "([BI)[B"⟩
abbrev cJ7_checkLength_df160 : ByteArray := prog_40_method_131_code
def yJ7_checkLength_df160 : MethodName := ⟨RJ7, "checkLength", "(II)V"⟩
abbrev cJ7_copyOfRange_39247 : ByteArray := prog_40_method_132_code
def yJ7_copyOfRange_39247 : MethodName := ⟨RJ7, "copyOfRange", "([BII)[B"⟩
abbrev cJ7_copyOfRangeByte_39247 : ByteArray := prog_40_method_133_code
def yJ7_copyOfRangeByte_39247 : MethodName := ⟨RJ7, "copyOfRangeByte", "([BII)[B"⟩
def RJx5ef63 : String := "java/util/Collection"
def TJx5ef63 : u_T := fun k => match k with
  | _ => ("", "", "", false)
def tyJx5ef63 : Nat → FieldType := fun k => match k with
  | _ => .int
theorem nmJx5ef63 : ∀ a, a < 0 → ∀ b, b < 0 → a ≠ b → (TJx5ef63 a).2.1 ≠ (TJx5ef63 b).2.1 := by decide +kernel
theorem tyJx5ef63_ok : ∀ k, k < 0 → parseFieldDescriptor (TJx5ef63 k).2.2.1 = some (tyJx5ef63 k) := by decide +kernel
def RJxbd725 : String := "java/util/List"
def TJxbd725 : u_T := fun k => match k with
  | _ => ("", "", "", false)
def tyJxbd725 : Nat → FieldType := fun k => match k with
  | _ => .int
theorem nmJxbd725 : ∀ a, a < 0 → ∀ b, b < 0 → a ≠ b → (TJxbd725 a).2.1 ≠ (TJxbd725 b).2.1 := by decide +kernel
theorem tyJxbd725_ok : ∀ k, k < 0 → parseFieldDescriptor (TJxbd725 k).2.2.1 = some (tyJxbd725 k) := by decide +kernel
def RJ15 : String := "java/util/Objects"
def TJ15 : u_T := fun k => match k with
  | _ => ("", "", "", false)
def tyJ15 : Nat → FieldType := fun k => match k with
  | _ => .int
theorem nmJ15 : ∀ a, a < 0 → ∀ b, b < 0 → a ≠ b → (TJ15 a).2.1 ≠ (TJ15 b).2.1 := by decide +kernel
theorem tyJ15_ok : ∀ k, k < 0 → parseFieldDescriptor (TJ15 k).2.2.1 = some (tyJ15 k) := by decide +kernel
abbrev cJ15_checkIndex_7cf53 : ByteArray := prog_43_method_17_code
def yJ15_checkIndex_7cf53 : MethodName := ⟨RJ15, "checkIndex", "(II)I"⟩
def RJxf0a74 : String := "java/util/RandomAccess"
def TJxf0a74 : u_T := fun k => match k with
  | _ => ("", "", "", false)
def tyJxf0a74 : Nat → FieldType := fun k => match k with
  | _ => .int
theorem nmJxf0a74 : ∀ a, a < 0 → ∀ b, b < 0 → a ≠ b → (TJxf0a74 a).2.1 ≠ (TJxf0a74 b).2.1 := by decide +kernel
theorem tyJxf0a74_ok : ∀ k, k < 0 → parseFieldDescriptor (TJxf0a74 k).2.2.1 = some (tyJxf0a74 k) := by decide +kernel
def RJxa66e6 : String := "java/util/SequencedCollection"
def TJxa66e6 : u_T := fun k => match k with
  | _ => ("", "", "", false)
def tyJxa66e6 : Nat → FieldType := fun k => match k with
  | _ => .int
theorem nmJxa66e6 : ∀ a, a < 0 → ∀ b, b < 0 → a ≠ b → (TJxa66e6 a).2.1 ≠ (TJxa66e6 b).2.1 := by decide +kernel
theorem tyJxa66e6_ok : ∀ k, k < 0 → parseFieldDescriptor (TJxa66e6 k).2.2.1 = some (tyJxa66e6 k) := by decide +kernel
def RJ8 : String := "jdk/internal/util/ArraysSupport"
def TJ8 : u_T := fun k => match k with
  | _ => ("", "", "", false)
def tyJ8 : Nat → FieldType := fun k => match k with
  | _ => .int
theorem nmJ8 : ∀ a, a < 0 → ∀ b, b < 0 → a ≠ b → (TJ8 a).2.1 ≠ (TJ8 b).2.1 := by decide +kernel
theorem tyJ8_ok : ∀ k, k < 0 → parseFieldDescriptor (TJ8 k).2.2.1 = some (tyJ8 k) := by decide +kernel
abbrev cJ8_newLength_cabcc : ByteArray := prog_46_method_27_code
def yJ8_newLength_cabcc : MethodName := ⟨RJ8, "newLength", "(III)I"⟩
abbrev cJ8_hugeLength_7cf53 : ByteArray := prog_46_method_28_code
def yJ8_hugeLength_7cf53 : MethodName := ⟨RJ8, "hugeLength", "(II)I"⟩
def RJ3 : String := "jdk/internal/util/Preconditions"
def TJ3 : u_T := fun k => match k with
  | _ => ("", "", "", false)
def tyJ3 : Nat → FieldType := fun k => match k with
  | _ => .int
theorem nmJ3 : ∀ a, a < 0 → ∀ b, b < 0 → a ≠ b → (TJ3 a).2.1 ≠ (TJ3 b).2.1 := by decide +kernel
theorem tyJ3_ok : ∀ k, k < 0 → parseFieldDescriptor (TJ3 k).2.2.1 = some (tyJ3 k) := by decide +kernel
abbrev cJ3_checkIndex_8e157 : ByteArray := prog_47_method_11_code
def yJ3_checkIndex_8e157 : MethodName := ⟨RJ3, "checkIndex", "(IILjava/util/function/BiFunction;)I"⟩
abbrev cJ3_checkFromToIndex_8c36e : ByteArray := prog_47_method_12_code
def yJ3_checkFromToIndex_8c36e : MethodName := ⟨RJ3, "checkFromToIndex", "(IIILjava/util/function/BiFunction;)I"⟩
abbrev cJ3_checkFromIndexSize_8c36e : ByteArray := prog_47_method_13_code
def yJ3_checkFromIndexSize_8c36e : MethodName := ⟨RJ3, "checkFromIndexSize", "(IIILjava/util/function/BiFunction;)I"⟩
def RL : String := "RankedSearchLaw"
abbrev cL_feed : ByteArray := method_3_code
def yL_feed : MethodName := ⟨RL, "feed", "(LRankedSearch;IJ[J)I"⟩
abbrev cL_put : ByteArray := method_4_code
def yL_put : MethodName := ⟨RL, "put", "(LRankedSearch;I[J)I"⟩
abbrev cL_drop : ByteArray := method_5_code
def yL_drop : MethodName := ⟨RL, "drop", "(LRankedSearch;I[J)I"⟩
abbrev cL_told : ByteArray := method_6_code
def yL_told : MethodName := ⟨RL, "told", "(LRankedSearch;I[J)I"⟩
abbrev cL_about : ByteArray := method_7_code
def yL_about : MethodName := ⟨RL, "about", "(LRankedSearch;I[J)I"⟩
abbrev cL_find : ByteArray := method_8_code
def yL_find : MethodName := ⟨RL, "find", "(LRankedSearch;I[J)I"⟩
abbrev cL_similar : ByteArray := method_9_code
def yL_similar : MethodName := ⟨RL, "similar", "(LRankedSearch;II[J)I"⟩
abbrev cL_hit : ByteArray := method_10_code
def yL_hit : MethodName := ⟨RL, "hit", "(LRankedSearch;I[J)I"⟩
abbrev cL_score : ByteArray := method_11_code
def yL_score : MethodName := ⟨RL, "score", "(LRankedSearch;I[J)I"⟩
abbrev cL_law : ByteArray := code
def yL_law : MethodName := ⟨RL, "law", "([I)Z"⟩
end
section
theorem dX0_init_0 : decode cX0_init 0 = .ok (.aload_n 0, 1) := by decide +kernel
theorem dX0_init_1 : decode cX0_init 1 = .ok (.invokespecial 3, 3) := by decide +kernel
theorem dX0_init_4 : decode cX0_init 4 = .ok (.aload_n 0, 1) := by decide +kernel
theorem dX0_init_5 : decode cX0_init 5 = .ok (.bipush 50, 2) := by decide +kernel
theorem dX0_init_7 : decode cX0_init 7 = .ok (.newarray .int, 2) := by decide +kernel
theorem dX0_init_9 : decode cX0_init 9 = .ok (.putfield 9, 3) := by decide +kernel
theorem dX0_init_12 : decode cX0_init 12 = .ok (.aload_n 0, 1) := by decide +kernel
theorem dX0_init_13 : decode cX0_init 13 = .ok (.bipush 50, 2) := by decide +kernel
theorem dX0_init_15 : decode cX0_init 15 = .ok (.newarray .int, 2) := by decide +kernel
theorem dX0_init_17 : decode cX0_init 17 = .ok (.putfield 15, 3) := by decide +kernel
theorem dX0_init_20 : decode cX0_init 20 = .ok (.return_, 1) := by decide +kernel
theorem dX0_start_0 : decode cX0_start 0 = .ok (.aload_n 0, 1) := by decide +kernel
theorem dX0_start_1 : decode cX0_start 1 = .ok (.iconst 0, 1) := by decide +kernel
theorem dX0_start_2 : decode cX0_start 2 = .ok (.iload_n 1, 1) := by decide +kernel
theorem dX0_start_3 : decode cX0_start 3 = .ok (.bipush 50, 2) := by decide +kernel
theorem dX0_start_5 : decode cX0_start 5 = .ok (.invokestatic 18, 3) := by decide +kernel
theorem dX0_start_8 : decode cX0_start 8 = .ok (.invokestatic 24, 3) := by decide +kernel
theorem dX0_start_11 : decode cX0_start 11 = .ok (.putfield 27, 3) := by decide +kernel
theorem dX0_start_14 : decode cX0_start 14 = .ok (.aload_n 0, 1) := by decide +kernel
theorem dX0_start_15 : decode cX0_start 15 = .ok (.iconst 0, 1) := by decide +kernel
theorem dX0_start_16 : decode cX0_start 16 = .ok (.putfield 31, 3) := by decide +kernel
theorem dX0_start_19 : decode cX0_start 19 = .ok (.return_, 1) := by decide +kernel
theorem dX0_has_0 : decode cX0_has 0 = .ok (.iload_n 1, 1) := by decide +kernel
theorem dX0_has_1 : decode cX0_has 1 = .ok (.ifCond .lt 15, 3) := by decide +kernel
theorem dX0_has_4 : decode cX0_has 4 = .ok (.iload_n 1, 1) := by decide +kernel
theorem dX0_has_5 : decode cX0_has 5 = .ok (.aload_n 0, 1) := by decide +kernel
theorem dX0_has_6 : decode cX0_has 6 = .ok (.getfield 31, 3) := by decide +kernel
theorem dX0_has_9 : decode cX0_has 9 = .ok (.if_icmp .ge 7, 3) := by decide +kernel
theorem dX0_has_12 : decode cX0_has 12 = .ok (.iconst 1, 1) := by decide +kernel
theorem dX0_has_13 : decode cX0_has 13 = .ok (.goto 4, 3) := by decide +kernel
theorem dX0_has_16 : decode cX0_has 16 = .ok (.iconst 0, 1) := by decide +kernel
theorem dX0_has_17 : decode cX0_has 17 = .ok (.ireturn, 1) := by decide +kernel
theorem dX0_numberAt_0 : decode cX0_numberAt 0 = .ok (.iload_n 1, 1) := by decide +kernel
theorem dX0_numberAt_1 : decode cX0_numberAt 1 = .ok (.ifCond .lt 21, 3) := by decide +kernel
theorem dX0_numberAt_4 : decode cX0_numberAt 4 = .ok (.iload_n 1, 1) := by decide +kernel
theorem dX0_numberAt_5 : decode cX0_numberAt 5 = .ok (.aload_n 0, 1) := by decide +kernel
theorem dX0_numberAt_6 : decode cX0_numberAt 6 = .ok (.getfield 9, 3) := by decide +kernel
theorem dX0_numberAt_9 : decode cX0_numberAt 9 = .ok (.arraylength, 1) := by decide +kernel
theorem dX0_numberAt_10 : decode cX0_numberAt 10 = .ok (.if_icmp .ge 12, 3) := by decide +kernel
theorem dX0_numberAt_13 : decode cX0_numberAt 13 = .ok (.aload_n 0, 1) := by decide +kernel
theorem dX0_numberAt_14 : decode cX0_numberAt 14 = .ok (.getfield 9, 3) := by decide +kernel
theorem dX0_numberAt_17 : decode cX0_numberAt 17 = .ok (.iload_n 1, 1) := by decide +kernel
theorem dX0_numberAt_18 : decode cX0_numberAt 18 = .ok (.iaload, 1) := by decide +kernel
theorem dX0_numberAt_19 : decode cX0_numberAt 19 = .ok (.goto 4, 3) := by decide +kernel
theorem dX0_numberAt_22 : decode cX0_numberAt 22 = .ok (.iconst (-1), 1) := by decide +kernel
theorem dX0_numberAt_23 : decode cX0_numberAt 23 = .ok (.ireturn, 1) := by decide +kernel
theorem dX0_pointsAt_0 : decode cX0_pointsAt 0 = .ok (.iload_n 1, 1) := by decide +kernel
theorem dX0_pointsAt_1 : decode cX0_pointsAt 1 = .ok (.ifCond .lt 21, 3) := by decide +kernel
theorem dX0_pointsAt_4 : decode cX0_pointsAt 4 = .ok (.iload_n 1, 1) := by decide +kernel
theorem dX0_pointsAt_5 : decode cX0_pointsAt 5 = .ok (.aload_n 0, 1) := by decide +kernel
theorem dX0_pointsAt_6 : decode cX0_pointsAt 6 = .ok (.getfield 15, 3) := by decide +kernel
theorem dX0_pointsAt_9 : decode cX0_pointsAt 9 = .ok (.arraylength, 1) := by decide +kernel
theorem dX0_pointsAt_10 : decode cX0_pointsAt 10 = .ok (.if_icmp .ge 12, 3) := by decide +kernel
theorem dX0_pointsAt_13 : decode cX0_pointsAt 13 = .ok (.aload_n 0, 1) := by decide +kernel
theorem dX0_pointsAt_14 : decode cX0_pointsAt 14 = .ok (.getfield 15, 3) := by decide +kernel
theorem dX0_pointsAt_17 : decode cX0_pointsAt 17 = .ok (.iload_n 1, 1) := by decide +kernel
theorem dX0_pointsAt_18 : decode cX0_pointsAt 18 = .ok (.iaload, 1) := by decide +kernel
theorem dX0_pointsAt_19 : decode cX0_pointsAt 19 = .ok (.goto 4, 3) := by decide +kernel
theorem dX0_pointsAt_22 : decode cX0_pointsAt 22 = .ok (.iconst 0, 1) := by decide +kernel
theorem dX0_pointsAt_23 : decode cX0_pointsAt 23 = .ok (.ireturn, 1) := by decide +kernel
theorem dX0_offer_0 : decode cX0_offer 0 = .ok (.aload_n 0, 1) := by decide +kernel
theorem dX0_offer_1 : decode cX0_offer 1 = .ok (.getfield 31, 3) := by decide +kernel
theorem dX0_offer_4 : decode cX0_offer 4 = .ok (.istore_n 3, 1) := by decide +kernel
theorem dX0_offer_5 : decode cX0_offer 5 = .ok (.iload_n 3, 1) := by decide +kernel
theorem dX0_offer_6 : decode cX0_offer 6 = .ok (.ifCond .le 21, 3) := by decide +kernel
theorem dX0_offer_9 : decode cX0_offer 9 = .ok (.aload_n 0, 1) := by decide +kernel
theorem dX0_offer_10 : decode cX0_offer 10 = .ok (.iload_n 3, 1) := by decide +kernel
theorem dX0_offer_11 : decode cX0_offer 11 = .ok (.iconst 1, 1) := by decide +kernel
theorem dX0_offer_12 : decode cX0_offer 12 = .ok (.isub, 1) := by decide +kernel
theorem dX0_offer_13 : decode cX0_offer 13 = .ok (.iload_n 1, 1) := by decide +kernel
theorem dX0_offer_14 : decode cX0_offer 14 = .ok (.iload_n 2, 1) := by decide +kernel
theorem dX0_offer_15 : decode cX0_offer 15 = .ok (.invokevirtual 34, 3) := by decide +kernel
theorem dX0_offer_18 : decode cX0_offer 18 = .ok (.ifCond .eq 9, 3) := by decide +kernel
theorem dX0_offer_21 : decode cX0_offer 21 = .ok (.iinc 3 (-1), 3) := by decide +kernel
theorem dX0_offer_24 : decode cX0_offer 24 = .ok (.goto (-19), 3) := by decide +kernel
theorem dX0_offer_27 : decode cX0_offer 27 = .ok (.iload_n 3, 1) := by decide +kernel
theorem dX0_offer_28 : decode cX0_offer 28 = .ok (.aload_n 0, 1) := by decide +kernel
theorem dX0_offer_29 : decode cX0_offer 29 = .ok (.getfield 27, 3) := by decide +kernel
theorem dX0_offer_32 : decode cX0_offer 32 = .ok (.if_icmp .lt 4, 3) := by decide +kernel
theorem dX0_offer_35 : decode cX0_offer 35 = .ok (.return_, 1) := by decide +kernel
theorem dX0_offer_36 : decode cX0_offer 36 = .ok (.aload_n 0, 1) := by decide +kernel
theorem dX0_offer_37 : decode cX0_offer 37 = .ok (.getfield 31, 3) := by decide +kernel
theorem dX0_offer_40 : decode cX0_offer 40 = .ok (.aload_n 0, 1) := by decide +kernel
theorem dX0_offer_41 : decode cX0_offer 41 = .ok (.getfield 27, 3) := by decide +kernel
theorem dX0_offer_44 : decode cX0_offer 44 = .ok (.if_icmp .ge 13, 3) := by decide +kernel
theorem dX0_offer_47 : decode cX0_offer 47 = .ok (.aload_n 0, 1) := by decide +kernel
theorem dX0_offer_48 : decode cX0_offer 48 = .ok (.dup, 1) := by decide +kernel
theorem dX0_offer_49 : decode cX0_offer 49 = .ok (.getfield 31, 3) := by decide +kernel
theorem dX0_offer_52 : decode cX0_offer 52 = .ok (.iconst 1, 1) := by decide +kernel
theorem dX0_offer_53 : decode cX0_offer 53 = .ok (.iadd, 1) := by decide +kernel
theorem dX0_offer_54 : decode cX0_offer 54 = .ok (.putfield 31, 3) := by decide +kernel
theorem dX0_offer_57 : decode cX0_offer 57 = .ok (.aload_n 0, 1) := by decide +kernel
theorem dX0_offer_58 : decode cX0_offer 58 = .ok (.getfield 31, 3) := by decide +kernel
theorem dX0_offer_61 : decode cX0_offer 61 = .ok (.iconst 1, 1) := by decide +kernel
theorem dX0_offer_62 : decode cX0_offer 62 = .ok (.isub, 1) := by decide +kernel
theorem dX0_offer_63 : decode cX0_offer 63 = .ok (.istore 4, 2) := by decide +kernel
theorem dX0_offer_65 : decode cX0_offer 65 = .ok (.iload 4, 2) := by decide +kernel
theorem dX0_offer_67 : decode cX0_offer 67 = .ok (.iload_n 3, 1) := by decide +kernel
theorem dX0_offer_68 : decode cX0_offer 68 = .ok (.if_icmp .le 31, 3) := by decide +kernel
theorem dX0_offer_71 : decode cX0_offer 71 = .ok (.aload_n 0, 1) := by decide +kernel
theorem dX0_offer_72 : decode cX0_offer 72 = .ok (.iload 4, 2) := by decide +kernel
theorem dX0_offer_74 : decode cX0_offer 74 = .ok (.aload_n 0, 1) := by decide +kernel
theorem dX0_offer_75 : decode cX0_offer 75 = .ok (.iload 4, 2) := by decide +kernel
theorem dX0_offer_77 : decode cX0_offer 77 = .ok (.iconst 1, 1) := by decide +kernel
theorem dX0_offer_78 : decode cX0_offer 78 = .ok (.isub, 1) := by decide +kernel
theorem dX0_offer_79 : decode cX0_offer 79 = .ok (.invokevirtual 38, 3) := by decide +kernel
theorem dX0_offer_82 : decode cX0_offer 82 = .ok (.aload_n 0, 1) := by decide +kernel
theorem dX0_offer_83 : decode cX0_offer 83 = .ok (.iload 4, 2) := by decide +kernel
theorem dX0_offer_85 : decode cX0_offer 85 = .ok (.iconst 1, 1) := by decide +kernel
theorem dX0_offer_86 : decode cX0_offer 86 = .ok (.isub, 1) := by decide +kernel
theorem dX0_offer_87 : decode cX0_offer 87 = .ok (.invokevirtual 42, 3) := by decide +kernel
theorem dX0_offer_90 : decode cX0_offer 90 = .ok (.invokevirtual 45, 3) := by decide +kernel
theorem dX0_offer_93 : decode cX0_offer 93 = .ok (.iinc 4 (-1), 3) := by decide +kernel
theorem dX0_offer_96 : decode cX0_offer 96 = .ok (.goto (-31), 3) := by decide +kernel
theorem dX0_offer_99 : decode cX0_offer 99 = .ok (.aload_n 0, 1) := by decide +kernel
theorem dX0_offer_100 : decode cX0_offer 100 = .ok (.iload_n 3, 1) := by decide +kernel
theorem dX0_offer_101 : decode cX0_offer 101 = .ok (.iload_n 1, 1) := by decide +kernel
theorem dX0_offer_102 : decode cX0_offer 102 = .ok (.iload_n 2, 1) := by decide +kernel
theorem dX0_offer_103 : decode cX0_offer 103 = .ok (.invokevirtual 45, 3) := by decide +kernel
theorem dX0_offer_106 : decode cX0_offer 106 = .ok (.return_, 1) := by decide +kernel
theorem dX0_goesBefore_0 : decode cX0_goesBefore 0 = .ok (.aload_n 0, 1) := by decide +kernel
theorem dX0_goesBefore_1 : decode cX0_goesBefore 1 = .ok (.iload_n 1, 1) := by decide +kernel
theorem dX0_goesBefore_2 : decode cX0_goesBefore 2 = .ok (.invokevirtual 42, 3) := by decide +kernel
theorem dX0_goesBefore_5 : decode cX0_goesBefore 5 = .ok (.istore 4, 2) := by decide +kernel
theorem dX0_goesBefore_7 : decode cX0_goesBefore 7 = .ok (.iload_n 3, 1) := by decide +kernel
theorem dX0_goesBefore_8 : decode cX0_goesBefore 8 = .ok (.iload 4, 2) := by decide +kernel
theorem dX0_goesBefore_10 : decode cX0_goesBefore 10 = .ok (.if_icmp .gt 18, 3) := by decide +kernel
theorem dX0_goesBefore_13 : decode cX0_goesBefore 13 = .ok (.iload_n 3, 1) := by decide +kernel
theorem dX0_goesBefore_14 : decode cX0_goesBefore 14 = .ok (.iload 4, 2) := by decide +kernel
theorem dX0_goesBefore_16 : decode cX0_goesBefore 16 = .ok (.if_icmp .ne 16, 3) := by decide +kernel
theorem dX0_goesBefore_19 : decode cX0_goesBefore 19 = .ok (.iload_n 2, 1) := by decide +kernel
theorem dX0_goesBefore_20 : decode cX0_goesBefore 20 = .ok (.aload_n 0, 1) := by decide +kernel
theorem dX0_goesBefore_21 : decode cX0_goesBefore 21 = .ok (.iload_n 1, 1) := by decide +kernel
theorem dX0_goesBefore_22 : decode cX0_goesBefore 22 = .ok (.invokevirtual 38, 3) := by decide +kernel
theorem dX0_goesBefore_25 : decode cX0_goesBefore 25 = .ok (.if_icmp .ge 7, 3) := by decide +kernel
theorem dX0_goesBefore_28 : decode cX0_goesBefore 28 = .ok (.iconst 1, 1) := by decide +kernel
theorem dX0_goesBefore_29 : decode cX0_goesBefore 29 = .ok (.goto 4, 3) := by decide +kernel
theorem dX0_goesBefore_32 : decode cX0_goesBefore 32 = .ok (.iconst 0, 1) := by decide +kernel
theorem dX0_goesBefore_33 : decode cX0_goesBefore 33 = .ok (.ireturn, 1) := by decide +kernel
theorem dX0_set_0 : decode cX0_set 0 = .ok (.iload_n 1, 1) := by decide +kernel
theorem dX0_set_1 : decode cX0_set 1 = .ok (.ifCond .lt 35, 3) := by decide +kernel
theorem dX0_set_4 : decode cX0_set 4 = .ok (.iload_n 1, 1) := by decide +kernel
theorem dX0_set_5 : decode cX0_set 5 = .ok (.aload_n 0, 1) := by decide +kernel
theorem dX0_set_6 : decode cX0_set 6 = .ok (.getfield 9, 3) := by decide +kernel
theorem dX0_set_9 : decode cX0_set 9 = .ok (.arraylength, 1) := by decide +kernel
theorem dX0_set_10 : decode cX0_set 10 = .ok (.if_icmp .ge 26, 3) := by decide +kernel
theorem dX0_set_13 : decode cX0_set 13 = .ok (.iload_n 1, 1) := by decide +kernel
theorem dX0_set_14 : decode cX0_set 14 = .ok (.aload_n 0, 1) := by decide +kernel
theorem dX0_set_15 : decode cX0_set 15 = .ok (.getfield 15, 3) := by decide +kernel
theorem dX0_set_18 : decode cX0_set 18 = .ok (.arraylength, 1) := by decide +kernel
theorem dX0_set_19 : decode cX0_set 19 = .ok (.if_icmp .ge 17, 3) := by decide +kernel
theorem dX0_set_22 : decode cX0_set 22 = .ok (.aload_n 0, 1) := by decide +kernel
theorem dX0_set_23 : decode cX0_set 23 = .ok (.getfield 9, 3) := by decide +kernel
theorem dX0_set_26 : decode cX0_set 26 = .ok (.iload_n 1, 1) := by decide +kernel
theorem dX0_set_27 : decode cX0_set 27 = .ok (.iload_n 2, 1) := by decide +kernel
theorem dX0_set_28 : decode cX0_set 28 = .ok (.iastore, 1) := by decide +kernel
theorem dX0_set_29 : decode cX0_set 29 = .ok (.aload_n 0, 1) := by decide +kernel
theorem dX0_set_30 : decode cX0_set 30 = .ok (.getfield 15, 3) := by decide +kernel
theorem dX0_set_33 : decode cX0_set 33 = .ok (.iload_n 1, 1) := by decide +kernel
theorem dX0_set_34 : decode cX0_set 34 = .ok (.iload_n 3, 1) := by decide +kernel
theorem dX0_set_35 : decode cX0_set 35 = .ok (.iastore, 1) := by decide +kernel
theorem dX0_set_36 : decode cX0_set 36 = .ok (.return_, 1) := by decide +kernel
theorem dX1_init_0 : decode cX1_init 0 = .ok (.aload_n 0, 1) := by decide +kernel
theorem dX1_init_1 : decode cX1_init 1 = .ok (.invokespecial 1, 3) := by decide +kernel
theorem dX1_init_4 : decode cX1_init 4 = .ok (.aload_n 0, 1) := by decide +kernel
theorem dX1_init_5 : decode cX1_init 5 = .ok (.iload_n 1, 1) := by decide +kernel
theorem dX1_init_6 : decode cX1_init 6 = .ok (.putfield 7, 3) := by decide +kernel
theorem dX1_init_9 : decode cX1_init 9 = .ok (.return_, 1) := by decide +kernel
theorem dX2_letterOf_0 : decode cX2_letterOf 0 = .ok (.iload_n 0, 1) := by decide +kernel
theorem dX2_letterOf_1 : decode cX2_letterOf 1 = .ok (.bipush 97, 2) := by decide +kernel
theorem dX2_letterOf_3 : decode cX2_letterOf 3 = .ok (.if_icmp .lt 16, 3) := by decide +kernel
theorem dX2_letterOf_6 : decode cX2_letterOf 6 = .ok (.iload_n 0, 1) := by decide +kernel
theorem dX2_letterOf_7 : decode cX2_letterOf 7 = .ok (.bipush 122, 2) := by decide +kernel
theorem dX2_letterOf_9 : decode cX2_letterOf 9 = .ok (.if_icmp .gt 10, 3) := by decide +kernel
theorem dX2_letterOf_12 : decode cX2_letterOf 12 = .ok (.iload_n 0, 1) := by decide +kernel
theorem dX2_letterOf_13 : decode cX2_letterOf 13 = .ok (.bipush 97, 2) := by decide +kernel
theorem dX2_letterOf_15 : decode cX2_letterOf 15 = .ok (.isub, 1) := by decide +kernel
theorem dX2_letterOf_16 : decode cX2_letterOf 16 = .ok (.iconst 1, 1) := by decide +kernel
theorem dX2_letterOf_17 : decode cX2_letterOf 17 = .ok (.iadd, 1) := by decide +kernel
theorem dX2_letterOf_18 : decode cX2_letterOf 18 = .ok (.ireturn, 1) := by decide +kernel
theorem dX2_letterOf_19 : decode cX2_letterOf 19 = .ok (.iload_n 0, 1) := by decide +kernel
theorem dX2_letterOf_20 : decode cX2_letterOf 20 = .ok (.bipush 65, 2) := by decide +kernel
theorem dX2_letterOf_22 : decode cX2_letterOf 22 = .ok (.if_icmp .lt 16, 3) := by decide +kernel
theorem dX2_letterOf_25 : decode cX2_letterOf 25 = .ok (.iload_n 0, 1) := by decide +kernel
theorem dX2_letterOf_26 : decode cX2_letterOf 26 = .ok (.bipush 90, 2) := by decide +kernel
theorem dX2_letterOf_28 : decode cX2_letterOf 28 = .ok (.if_icmp .gt 10, 3) := by decide +kernel
theorem dX2_letterOf_31 : decode cX2_letterOf 31 = .ok (.iload_n 0, 1) := by decide +kernel
theorem dX2_letterOf_32 : decode cX2_letterOf 32 = .ok (.bipush 65, 2) := by decide +kernel
theorem dX2_letterOf_34 : decode cX2_letterOf 34 = .ok (.isub, 1) := by decide +kernel
theorem dX2_letterOf_35 : decode cX2_letterOf 35 = .ok (.iconst 1, 1) := by decide +kernel
theorem dX2_letterOf_36 : decode cX2_letterOf 36 = .ok (.iadd, 1) := by decide +kernel
theorem dX2_letterOf_37 : decode cX2_letterOf 37 = .ok (.ireturn, 1) := by decide +kernel
theorem dX2_letterOf_38 : decode cX2_letterOf 38 = .ok (.iconst 0, 1) := by decide +kernel
theorem dX2_letterOf_39 : decode cX2_letterOf 39 = .ok (.ireturn, 1) := by decide +kernel
theorem dX2_isLetter_0 : decode cX2_isLetter 0 = .ok (.iload_n 0, 1) := by decide +kernel
theorem dX2_isLetter_1 : decode cX2_isLetter 1 = .ok (.invokestatic 9, 3) := by decide +kernel
theorem dX2_isLetter_4 : decode cX2_isLetter 4 = .ok (.ifCond .eq 7, 3) := by decide +kernel
theorem dX2_isLetter_7 : decode cX2_isLetter 7 = .ok (.iconst 1, 1) := by decide +kernel
theorem dX2_isLetter_8 : decode cX2_isLetter 8 = .ok (.goto 4, 3) := by decide +kernel
theorem dX2_isLetter_11 : decode cX2_isLetter 11 = .ok (.iconst 0, 1) := by decide +kernel
theorem dX2_isLetter_12 : decode cX2_isLetter 12 = .ok (.ireturn, 1) := by decide +kernel
theorem dX2_with_0 : decode cX2_with 0 = .ok (.lload_n 0, 1) := by decide +kernel
theorem dX2_with_1 : decode cX2_with 1 = .ok (.iload_n 3, 1) := by decide +kernel
theorem dX2_with_2 : decode cX2_with 2 = .ok (.i2l, 1) := by decide +kernel
theorem dX2_with_3 : decode cX2_with 3 = .ok (.iconst 5, 1) := by decide +kernel
theorem dX2_with_4 : decode cX2_with 4 = .ok (.bipush 11, 2) := by decide +kernel
theorem dX2_with_6 : decode cX2_with 6 = .ok (.iload_n 2, 1) := by decide +kernel
theorem dX2_with_7 : decode cX2_with 7 = .ok (.isub, 1) := by decide +kernel
theorem dX2_with_8 : decode cX2_with 8 = .ok (.imul, 1) := by decide +kernel
theorem dX2_with_9 : decode cX2_with 9 = .ok (.lshl, 1) := by decide +kernel
theorem dX2_with_10 : decode cX2_with 10 = .ok (.lor, 1) := by decide +kernel
theorem dX2_with_11 : decode cX2_with 11 = .ok (.lreturn, 1) := by decide +kernel
theorem dX2_lastWithBeginning_0 : decode cX2_lastWithBeginning 0 = .ok (.lload_n 0, 1) := by decide +kernel
theorem dX2_lastWithBeginning_1 : decode cX2_lastWithBeginning 1 = .ok (.lconst 1, 1) := by decide +kernel
theorem dX2_lastWithBeginning_2 : decode cX2_lastWithBeginning 2 = .ok (.iconst 5, 1) := by decide +kernel
theorem dX2_lastWithBeginning_3 : decode cX2_lastWithBeginning 3 = .ok (.bipush 12, 2) := by decide +kernel
theorem dX2_lastWithBeginning_5 : decode cX2_lastWithBeginning 5 = .ok (.iload_n 2, 1) := by decide +kernel
theorem dX2_lastWithBeginning_6 : decode cX2_lastWithBeginning 6 = .ok (.isub, 1) := by decide +kernel
theorem dX2_lastWithBeginning_7 : decode cX2_lastWithBeginning 7 = .ok (.imul, 1) := by decide +kernel
theorem dX2_lastWithBeginning_8 : decode cX2_lastWithBeginning 8 = .ok (.lshl, 1) := by decide +kernel
theorem dX2_lastWithBeginning_9 : decode cX2_lastWithBeginning 9 = .ok (.lconst 1, 1) := by decide +kernel
theorem dX2_lastWithBeginning_10 : decode cX2_lastWithBeginning 10 = .ok (.lsub, 1) := by decide +kernel
theorem dX2_lastWithBeginning_11 : decode cX2_lastWithBeginning 11 = .ok (.lor, 1) := by decide +kernel
theorem dX2_lastWithBeginning_12 : decode cX2_lastWithBeginning 12 = .ok (.lreturn, 1) := by decide +kernel
theorem dX2_firstLowest_0 : decode cX2_firstLowest 0 = .ok (.lconst 0, 1) := by decide +kernel
theorem dX2_firstLowest_1 : decode cX2_firstLowest 1 = .ok (.lstore_n 2, 1) := by decide +kernel
theorem dX2_firstLowest_2 : decode cX2_firstLowest 2 = .ok (.iconst 0, 1) := by decide +kernel
theorem dX2_firstLowest_3 : decode cX2_firstLowest 3 = .ok (.istore 4, 2) := by decide +kernel
theorem dX2_firstLowest_5 : decode cX2_firstLowest 5 = .ok (.iload 4, 2) := by decide +kernel
theorem dX2_firstLowest_7 : decode cX2_firstLowest 7 = .ok (.bipush 12, 2) := by decide +kernel
theorem dX2_firstLowest_9 : decode cX2_firstLowest 9 = .ok (.if_icmp .ge 34, 3) := by decide +kernel
theorem dX2_firstLowest_12 : decode cX2_firstLowest 12 = .ok (.lload_n 0, 1) := by decide +kernel
theorem dX2_firstLowest_13 : decode cX2_firstLowest 13 = .ok (.iconst 5, 1) := by decide +kernel
theorem dX2_firstLowest_14 : decode cX2_firstLowest 14 = .ok (.bipush 11, 2) := by decide +kernel
theorem dX2_firstLowest_16 : decode cX2_firstLowest 16 = .ok (.iload 4, 2) := by decide +kernel
theorem dX2_firstLowest_18 : decode cX2_firstLowest 18 = .ok (.isub, 1) := by decide +kernel
theorem dX2_firstLowest_19 : decode cX2_firstLowest 19 = .ok (.imul, 1) := by decide +kernel
theorem dX2_firstLowest_20 : decode cX2_firstLowest 20 = .ok (.lshr, 1) := by decide +kernel
theorem dX2_firstLowest_21 : decode cX2_firstLowest 21 = .ok (.ldc2_w 15, 3) := by decide +kernel
theorem dX2_firstLowest_24 : decode cX2_firstLowest 24 = .ok (.land, 1) := by decide +kernel
theorem dX2_firstLowest_25 : decode cX2_firstLowest 25 = .ok (.lstore 5, 2) := by decide +kernel
theorem dX2_firstLowest_27 : decode cX2_firstLowest 27 = .ok (.lload_n 2, 1) := by decide +kernel
theorem dX2_firstLowest_28 : decode cX2_firstLowest 28 = .ok (.lload 5, 2) := by decide +kernel
theorem dX2_firstLowest_30 : decode cX2_firstLowest 30 = .ok (.iconst 5, 1) := by decide +kernel
theorem dX2_firstLowest_31 : decode cX2_firstLowest 31 = .ok (.iload 4, 2) := by decide +kernel
theorem dX2_firstLowest_33 : decode cX2_firstLowest 33 = .ok (.imul, 1) := by decide +kernel
theorem dX2_firstLowest_34 : decode cX2_firstLowest 34 = .ok (.lshl, 1) := by decide +kernel
theorem dX2_firstLowest_35 : decode cX2_firstLowest 35 = .ok (.lor, 1) := by decide +kernel
theorem dX2_firstLowest_36 : decode cX2_firstLowest 36 = .ok (.lstore_n 2, 1) := by decide +kernel
theorem dX2_firstLowest_37 : decode cX2_firstLowest 37 = .ok (.iinc 4 1, 3) := by decide +kernel
theorem dX2_firstLowest_40 : decode cX2_firstLowest 40 = .ok (.goto (-35), 3) := by decide +kernel
theorem dX2_firstLowest_43 : decode cX2_firstLowest 43 = .ok (.lload_n 2, 1) := by decide +kernel
theorem dX2_firstLowest_44 : decode cX2_firstLowest 44 = .ok (.lreturn, 1) := by decide +kernel
theorem dX3_init_0 : decode cX3_init 0 = .ok (.aload_n 0, 1) := by decide +kernel
theorem dX3_init_1 : decode cX3_init 1 = .ok (.invokespecial 3, 3) := by decide +kernel
theorem dX3_init_4 : decode cX3_init 4 = .ok (.aload_n 0, 1) := by decide +kernel
theorem dX3_init_5 : decode cX3_init 5 = .ok (.new 9, 3) := by decide +kernel
theorem dX3_init_8 : decode cX3_init 8 = .ok (.dup, 1) := by decide +kernel
theorem dX3_init_9 : decode cX3_init 9 = .ok (.invokespecial 11, 3) := by decide +kernel
theorem dX3_init_12 : decode cX3_init 12 = .ok (.putfield 12, 3) := by decide +kernel
theorem dX3_init_15 : decode cX3_init 15 = .ok (.return_, 1) := by decide +kernel
theorem dX3_size_0 : decode cX3_size 0 = .ok (.aload_n 0, 1) := by decide +kernel
theorem dX3_size_1 : decode cX3_size 1 = .ok (.getfield 12, 3) := by decide +kernel
theorem dX3_size_4 : decode cX3_size 4 = .ok (.invokevirtual 18, 3) := by decide +kernel
theorem dX3_size_7 : decode cX3_size 7 = .ok (.ireturn, 1) := by decide +kernel
theorem dX3_wordAt_0 : decode cX3_wordAt 0 = .ok (.iload_n 1, 1) := by decide +kernel
theorem dX3_wordAt_1 : decode cX3_wordAt 1 = .ok (.ifCond .lt 28, 3) := by decide +kernel
theorem dX3_wordAt_4 : decode cX3_wordAt 4 = .ok (.iload_n 1, 1) := by decide +kernel
theorem dX3_wordAt_5 : decode cX3_wordAt 5 = .ok (.aload_n 0, 1) := by decide +kernel
theorem dX3_wordAt_6 : decode cX3_wordAt 6 = .ok (.getfield 12, 3) := by decide +kernel
theorem dX3_wordAt_9 : decode cX3_wordAt 9 = .ok (.invokevirtual 18, 3) := by decide +kernel
theorem dX3_wordAt_12 : decode cX3_wordAt 12 = .ok (.if_icmp .ge 17, 3) := by decide +kernel
theorem dX3_wordAt_15 : decode cX3_wordAt 15 = .ok (.aload_n 0, 1) := by decide +kernel
theorem dX3_wordAt_16 : decode cX3_wordAt 16 = .ok (.getfield 12, 3) := by decide +kernel
theorem dX3_wordAt_19 : decode cX3_wordAt 19 = .ok (.iload_n 1, 1) := by decide +kernel
theorem dX3_wordAt_20 : decode cX3_wordAt 20 = .ok (.invokevirtual 22, 3) := by decide +kernel
theorem dX3_wordAt_23 : decode cX3_wordAt 23 = .ok (.checkcast 26, 3) := by decide +kernel
theorem dX3_wordAt_26 : decode cX3_wordAt 26 = .ok (.goto 4, 3) := by decide +kernel
theorem dX3_wordAt_29 : decode cX3_wordAt 29 = .ok (.aconst_null, 1) := by decide +kernel
theorem dX3_wordAt_30 : decode cX3_wordAt 30 = .ok (.areturn, 1) := by decide +kernel
theorem dX3_placeOf_0 : decode cX3_placeOf 0 = .ok (.iconst 0, 1) := by decide +kernel
theorem dX3_placeOf_1 : decode cX3_placeOf 1 = .ok (.istore_n 3, 1) := by decide +kernel
theorem dX3_placeOf_2 : decode cX3_placeOf 2 = .ok (.aload_n 0, 1) := by decide +kernel
theorem dX3_placeOf_3 : decode cX3_placeOf 3 = .ok (.getfield 12, 3) := by decide +kernel
theorem dX3_placeOf_6 : decode cX3_placeOf 6 = .ok (.invokevirtual 18, 3) := by decide +kernel
theorem dX3_placeOf_9 : decode cX3_placeOf 9 = .ok (.istore 4, 2) := by decide +kernel
theorem dX3_placeOf_11 : decode cX3_placeOf 11 = .ok (.iconst 0, 1) := by decide +kernel
theorem dX3_placeOf_12 : decode cX3_placeOf 12 = .ok (.istore 5, 2) := by decide +kernel
theorem dX3_placeOf_14 : decode cX3_placeOf 14 = .ok (.iload 5, 2) := by decide +kernel
theorem dX3_placeOf_16 : decode cX3_placeOf 16 = .ok (.bipush 32, 2) := by decide +kernel
theorem dX3_placeOf_18 : decode cX3_placeOf 18 = .ok (.if_icmp .ge 60, 3) := by decide +kernel
theorem dX3_placeOf_21 : decode cX3_placeOf 21 = .ok (.iload_n 3, 1) := by decide +kernel
theorem dX3_placeOf_22 : decode cX3_placeOf 22 = .ok (.iload 4, 2) := by decide +kernel
theorem dX3_placeOf_24 : decode cX3_placeOf 24 = .ok (.if_icmp .ge 54, 3) := by decide +kernel
theorem dX3_placeOf_27 : decode cX3_placeOf 27 = .ok (.iload_n 3, 1) := by decide +kernel
theorem dX3_placeOf_28 : decode cX3_placeOf 28 = .ok (.iload 4, 2) := by decide +kernel
theorem dX3_placeOf_30 : decode cX3_placeOf 30 = .ok (.iload_n 3, 1) := by decide +kernel
theorem dX3_placeOf_31 : decode cX3_placeOf 31 = .ok (.isub, 1) := by decide +kernel
theorem dX3_placeOf_32 : decode cX3_placeOf 32 = .ok (.iconst 2, 1) := by decide +kernel
theorem dX3_placeOf_33 : decode cX3_placeOf 33 = .ok (.idiv, 1) := by decide +kernel
theorem dX3_placeOf_34 : decode cX3_placeOf 34 = .ok (.iadd, 1) := by decide +kernel
theorem dX3_placeOf_35 : decode cX3_placeOf 35 = .ok (.istore 6, 2) := by decide +kernel
theorem dX3_placeOf_37 : decode cX3_placeOf 37 = .ok (.aload_n 0, 1) := by decide +kernel
theorem dX3_placeOf_38 : decode cX3_placeOf 38 = .ok (.iload 6, 2) := by decide +kernel
theorem dX3_placeOf_40 : decode cX3_placeOf 40 = .ok (.invokevirtual 28, 3) := by decide +kernel
theorem dX3_placeOf_43 : decode cX3_placeOf 43 = .ok (.astore 7, 2) := by decide +kernel
theorem dX3_placeOf_45 : decode cX3_placeOf 45 = .ok (.aload 7, 2) := by decide +kernel
theorem dX3_placeOf_47 : decode cX3_placeOf 47 = .ok (.ifnull 21, 3) := by decide +kernel
theorem dX3_placeOf_50 : decode cX3_placeOf 50 = .ok (.aload 7, 2) := by decide +kernel
theorem dX3_placeOf_52 : decode cX3_placeOf 52 = .ok (.getfield 32, 3) := by decide +kernel
theorem dX3_placeOf_55 : decode cX3_placeOf 55 = .ok (.lload_n 1, 1) := by decide +kernel
theorem dX3_placeOf_56 : decode cX3_placeOf 56 = .ok (.lcmp, 1) := by decide +kernel
theorem dX3_placeOf_57 : decode cX3_placeOf 57 = .ok (.ifCond .ge 11, 3) := by decide +kernel
theorem dX3_placeOf_60 : decode cX3_placeOf 60 = .ok (.iload 6, 2) := by decide +kernel
theorem dX3_placeOf_62 : decode cX3_placeOf 62 = .ok (.iconst 1, 1) := by decide +kernel
theorem dX3_placeOf_63 : decode cX3_placeOf 63 = .ok (.iadd, 1) := by decide +kernel
theorem dX3_placeOf_64 : decode cX3_placeOf 64 = .ok (.istore_n 3, 1) := by decide +kernel
theorem dX3_placeOf_65 : decode cX3_placeOf 65 = .ok (.goto 7, 3) := by decide +kernel
theorem dX3_placeOf_68 : decode cX3_placeOf 68 = .ok (.iload 6, 2) := by decide +kernel
theorem dX3_placeOf_70 : decode cX3_placeOf 70 = .ok (.istore 4, 2) := by decide +kernel
theorem dX3_placeOf_72 : decode cX3_placeOf 72 = .ok (.iinc 5 1, 3) := by decide +kernel
theorem dX3_placeOf_75 : decode cX3_placeOf 75 = .ok (.goto (-61), 3) := by decide +kernel
theorem dX3_placeOf_78 : decode cX3_placeOf 78 = .ok (.iload_n 3, 1) := by decide +kernel
theorem dX3_placeOf_79 : decode cX3_placeOf 79 = .ok (.ireturn, 1) := by decide +kernel
theorem dX3_wordOf_0 : decode cX3_wordOf 0 = .ok (.aload_n 0, 1) := by decide +kernel
theorem dX3_wordOf_1 : decode cX3_wordOf 1 = .ok (.aload_n 0, 1) := by decide +kernel
theorem dX3_wordOf_2 : decode cX3_wordOf 2 = .ok (.lload_n 1, 1) := by decide +kernel
theorem dX3_wordOf_3 : decode cX3_wordOf 3 = .ok (.invokevirtual 36, 3) := by decide +kernel
theorem dX3_wordOf_6 : decode cX3_wordOf 6 = .ok (.invokevirtual 28, 3) := by decide +kernel
theorem dX3_wordOf_9 : decode cX3_wordOf 9 = .ok (.astore_n 3, 1) := by decide +kernel
theorem dX3_wordOf_10 : decode cX3_wordOf 10 = .ok (.aload_n 3, 1) := by decide +kernel
theorem dX3_wordOf_11 : decode cX3_wordOf 11 = .ok (.ifnull 16, 3) := by decide +kernel
theorem dX3_wordOf_14 : decode cX3_wordOf 14 = .ok (.aload_n 3, 1) := by decide +kernel
theorem dX3_wordOf_15 : decode cX3_wordOf 15 = .ok (.getfield 32, 3) := by decide +kernel
theorem dX3_wordOf_18 : decode cX3_wordOf 18 = .ok (.lload_n 1, 1) := by decide +kernel
theorem dX3_wordOf_19 : decode cX3_wordOf 19 = .ok (.lcmp, 1) := by decide +kernel
theorem dX3_wordOf_20 : decode cX3_wordOf 20 = .ok (.ifCond .ne 7, 3) := by decide +kernel
theorem dX3_wordOf_23 : decode cX3_wordOf 23 = .ok (.aload_n 3, 1) := by decide +kernel
theorem dX3_wordOf_24 : decode cX3_wordOf 24 = .ok (.goto 4, 3) := by decide +kernel
theorem dX3_wordOf_27 : decode cX3_wordOf 27 = .ok (.aconst_null, 1) := by decide +kernel
theorem dX3_wordOf_28 : decode cX3_wordOf 28 = .ok (.areturn, 1) := by decide +kernel
theorem dX3_enter_0 : decode cX3_enter 0 = .ok (.aload_n 0, 1) := by decide +kernel
theorem dX3_enter_1 : decode cX3_enter 1 = .ok (.lload_n 1, 1) := by decide +kernel
theorem dX3_enter_2 : decode cX3_enter 2 = .ok (.invokevirtual 36, 3) := by decide +kernel
theorem dX3_enter_5 : decode cX3_enter 5 = .ok (.istore_n 3, 1) := by decide +kernel
theorem dX3_enter_6 : decode cX3_enter 6 = .ok (.aload_n 0, 1) := by decide +kernel
theorem dX3_enter_7 : decode cX3_enter 7 = .ok (.iload_n 3, 1) := by decide +kernel
theorem dX3_enter_8 : decode cX3_enter 8 = .ok (.invokevirtual 28, 3) := by decide +kernel
theorem dX3_enter_11 : decode cX3_enter 11 = .ok (.astore 4, 2) := by decide +kernel
theorem dX3_enter_13 : decode cX3_enter 13 = .ok (.aload 4, 2) := by decide +kernel
theorem dX3_enter_15 : decode cX3_enter 15 = .ok (.ifnull 16, 3) := by decide +kernel
theorem dX3_enter_18 : decode cX3_enter 18 = .ok (.aload 4, 2) := by decide +kernel
theorem dX3_enter_20 : decode cX3_enter 20 = .ok (.getfield 32, 3) := by decide +kernel
theorem dX3_enter_23 : decode cX3_enter 23 = .ok (.lload_n 1, 1) := by decide +kernel
theorem dX3_enter_24 : decode cX3_enter 24 = .ok (.lcmp, 1) := by decide +kernel
theorem dX3_enter_25 : decode cX3_enter 25 = .ok (.ifCond .ne 6, 3) := by decide +kernel
theorem dX3_enter_28 : decode cX3_enter 28 = .ok (.aload 4, 2) := by decide +kernel
theorem dX3_enter_30 : decode cX3_enter 30 = .ok (.areturn, 1) := by decide +kernel
theorem dX3_enter_31 : decode cX3_enter 31 = .ok (.aload_n 0, 1) := by decide +kernel
theorem dX3_enter_32 : decode cX3_enter 32 = .ok (.invokevirtual 40, 3) := by decide +kernel
theorem dX3_enter_35 : decode cX3_enter 35 = .ok (.astore 5, 2) := by decide +kernel
theorem dX3_enter_37 : decode cX3_enter 37 = .ok (.aload 5, 2) := by decide +kernel
theorem dX3_enter_39 : decode cX3_enter 39 = .ok (.lload_n 1, 1) := by decide +kernel
theorem dX3_enter_40 : decode cX3_enter 40 = .ok (.invokevirtual 44, 3) := by decide +kernel
theorem dX3_enter_43 : decode cX3_enter 43 = .ok (.aload_n 0, 1) := by decide +kernel
theorem dX3_enter_44 : decode cX3_enter 44 = .ok (.getfield 12, 3) := by decide +kernel
theorem dX3_enter_47 : decode cX3_enter 47 = .ok (.iload_n 3, 1) := by decide +kernel
theorem dX3_enter_48 : decode cX3_enter 48 = .ok (.aload 5, 2) := by decide +kernel
theorem dX3_enter_50 : decode cX3_enter 50 = .ok (.invokevirtual 48, 3) := by decide +kernel
theorem dX3_enter_53 : decode cX3_enter 53 = .ok (.aload 5, 2) := by decide +kernel
theorem dX3_enter_55 : decode cX3_enter 55 = .ok (.areturn, 1) := by decide +kernel
theorem dX3_strike_0 : decode cX3_strike 0 = .ok (.aload_n 0, 1) := by decide +kernel
theorem dX3_strike_1 : decode cX3_strike 1 = .ok (.aload_n 1, 1) := by decide +kernel
theorem dX3_strike_2 : decode cX3_strike 2 = .ok (.getfield 32, 3) := by decide +kernel
theorem dX3_strike_5 : decode cX3_strike 5 = .ok (.invokevirtual 36, 3) := by decide +kernel
theorem dX3_strike_8 : decode cX3_strike 8 = .ok (.istore_n 2, 1) := by decide +kernel
theorem dX3_strike_9 : decode cX3_strike 9 = .ok (.aload_n 0, 1) := by decide +kernel
theorem dX3_strike_10 : decode cX3_strike 10 = .ok (.iload_n 2, 1) := by decide +kernel
theorem dX3_strike_11 : decode cX3_strike 11 = .ok (.invokevirtual 28, 3) := by decide +kernel
theorem dX3_strike_14 : decode cX3_strike 14 = .ok (.aload_n 1, 1) := by decide +kernel
theorem dX3_strike_15 : decode cX3_strike 15 = .ok (.if_acmp .ne 25, 3) := by decide +kernel
theorem dX3_strike_18 : decode cX3_strike 18 = .ok (.aload_n 0, 1) := by decide +kernel
theorem dX3_strike_19 : decode cX3_strike 19 = .ok (.getfield 12, 3) := by decide +kernel
theorem dX3_strike_22 : decode cX3_strike 22 = .ok (.iload_n 2, 1) := by decide +kernel
theorem dX3_strike_23 : decode cX3_strike 23 = .ok (.invokevirtual 52, 3) := by decide +kernel
theorem dX3_strike_26 : decode cX3_strike 26 = .ok (.pop, 1) := by decide +kernel
theorem dX3_strike_27 : decode cX3_strike 27 = .ok (.aload_n 1, 1) := by decide +kernel
theorem dX3_strike_28 : decode cX3_strike 28 = .ok (.aload_n 0, 1) := by decide +kernel
theorem dX3_strike_29 : decode cX3_strike 29 = .ok (.getfield 55, 3) := by decide +kernel
theorem dX3_strike_32 : decode cX3_strike 32 = .ok (.putfield 59, 3) := by decide +kernel
theorem dX3_strike_35 : decode cX3_strike 35 = .ok (.aload_n 0, 1) := by decide +kernel
theorem dX3_strike_36 : decode cX3_strike 36 = .ok (.aload_n 1, 1) := by decide +kernel
theorem dX3_strike_37 : decode cX3_strike 37 = .ok (.putfield 55, 3) := by decide +kernel
theorem dX3_strike_40 : decode cX3_strike 40 = .ok (.return_, 1) := by decide +kernel
theorem dX3_takeWord_0 : decode cX3_takeWord 0 = .ok (.aload_n 0, 1) := by decide +kernel
theorem dX3_takeWord_1 : decode cX3_takeWord 1 = .ok (.getfield 55, 3) := by decide +kernel
theorem dX3_takeWord_4 : decode cX3_takeWord 4 = .ok (.ifnonnull 11, 3) := by decide +kernel
theorem dX3_takeWord_7 : decode cX3_takeWord 7 = .ok (.new 26, 3) := by decide +kernel
theorem dX3_takeWord_10 : decode cX3_takeWord 10 = .ok (.dup, 1) := by decide +kernel
theorem dX3_takeWord_11 : decode cX3_takeWord 11 = .ok (.invokespecial 62, 3) := by decide +kernel
theorem dX3_takeWord_14 : decode cX3_takeWord 14 = .ok (.areturn, 1) := by decide +kernel
theorem dX3_takeWord_15 : decode cX3_takeWord 15 = .ok (.aload_n 0, 1) := by decide +kernel
theorem dX3_takeWord_16 : decode cX3_takeWord 16 = .ok (.getfield 55, 3) := by decide +kernel
theorem dX3_takeWord_19 : decode cX3_takeWord 19 = .ok (.astore_n 1, 1) := by decide +kernel
theorem dX3_takeWord_20 : decode cX3_takeWord 20 = .ok (.aload_n 0, 1) := by decide +kernel
theorem dX3_takeWord_21 : decode cX3_takeWord 21 = .ok (.aload_n 1, 1) := by decide +kernel
theorem dX3_takeWord_22 : decode cX3_takeWord 22 = .ok (.getfield 59, 3) := by decide +kernel
theorem dX3_takeWord_25 : decode cX3_takeWord 25 = .ok (.putfield 55, 3) := by decide +kernel
theorem dX3_takeWord_28 : decode cX3_takeWord 28 = .ok (.aload_n 1, 1) := by decide +kernel
theorem dX3_takeWord_29 : decode cX3_takeWord 29 = .ok (.areturn, 1) := by decide +kernel
theorem dX4_init_0 : decode cX4_init 0 = .ok (.aload_n 0, 1) := by decide +kernel
theorem dX4_init_1 : decode cX4_init 1 = .ok (.invokespecial 3, 3) := by decide +kernel
theorem dX4_init_4 : decode cX4_init 4 = .ok (.aload_n 0, 1) := by decide +kernel
theorem dX4_init_5 : decode cX4_init 5 = .ok (.new 9, 3) := by decide +kernel
theorem dX4_init_8 : decode cX4_init 8 = .ok (.dup, 1) := by decide +kernel
theorem dX4_init_9 : decode cX4_init 9 = .ok (.invokespecial 11, 3) := by decide +kernel
theorem dX4_init_12 : decode cX4_init 12 = .ok (.putfield 12, 3) := by decide +kernel
theorem dX4_init_15 : decode cX4_init 15 = .ok (.aload_n 0, 1) := by decide +kernel
theorem dX4_init_16 : decode cX4_init 16 = .ok (.new 18, 3) := by decide +kernel
theorem dX4_init_19 : decode cX4_init 19 = .ok (.dup, 1) := by decide +kernel
theorem dX4_init_20 : decode cX4_init 20 = .ok (.invokespecial 20, 3) := by decide +kernel
theorem dX4_init_23 : decode cX4_init 23 = .ok (.putfield 21, 3) := by decide +kernel
theorem dX4_init_26 : decode cX4_init 26 = .ok (.return_, 1) := by decide +kernel
theorem dX4_documentCount_0 : decode cX4_documentCount 0 = .ok (.aload_n 0, 1) := by decide +kernel
theorem dX4_documentCount_1 : decode cX4_documentCount 1 = .ok (.getfield 12, 3) := by decide +kernel
theorem dX4_documentCount_4 : decode cX4_documentCount 4 = .ok (.invokevirtual 25, 3) := by decide +kernel
theorem dX4_documentCount_7 : decode cX4_documentCount 7 = .ok (.ireturn, 1) := by decide +kernel
theorem dX4_documentOf_0 : decode cX4_documentOf 0 = .ok (.aload_n 0, 1) := by decide +kernel
theorem dX4_documentOf_1 : decode cX4_documentOf 1 = .ok (.aload_n 0, 1) := by decide +kernel
theorem dX4_documentOf_2 : decode cX4_documentOf 2 = .ok (.iload_n 1, 1) := by decide +kernel
theorem dX4_documentOf_3 : decode cX4_documentOf 3 = .ok (.invokevirtual 29, 3) := by decide +kernel
theorem dX4_documentOf_6 : decode cX4_documentOf 6 = .ok (.invokevirtual 33, 3) := by decide +kernel
theorem dX4_documentOf_9 : decode cX4_documentOf 9 = .ok (.areturn, 1) := by decide +kernel
theorem dX4_openDocument_0 : decode cX4_openDocument 0 = .ok (.aload_n 0, 1) := by decide +kernel
theorem dX4_openDocument_1 : decode cX4_openDocument 1 = .ok (.iload_n 1, 1) := by decide +kernel
theorem dX4_openDocument_2 : decode cX4_openDocument 2 = .ok (.invokevirtual 37, 3) := by decide +kernel
theorem dX4_openDocument_5 : decode cX4_openDocument 5 = .ok (.astore_n 2, 1) := by decide +kernel
theorem dX4_openDocument_6 : decode cX4_openDocument 6 = .ok (.aload_n 2, 1) := by decide +kernel
theorem dX4_openDocument_7 : decode cX4_openDocument 7 = .ok (.ifnonnull 15, 3) := by decide +kernel
theorem dX4_openDocument_10 : decode cX4_openDocument 10 = .ok (.aload_n 0, 1) := by decide +kernel
theorem dX4_openDocument_11 : decode cX4_openDocument 11 = .ok (.getfield 12, 3) := by decide +kernel
theorem dX4_openDocument_14 : decode cX4_openDocument 14 = .ok (.invokevirtual 25, 3) := by decide +kernel
theorem dX4_openDocument_17 : decode cX4_openDocument 17 = .ok (.bipush 120, 2) := by decide +kernel
theorem dX4_openDocument_19 : decode cX4_openDocument 19 = .ok (.if_icmp .lt 5, 3) := by decide +kernel
theorem dX4_openDocument_22 : decode cX4_openDocument 22 = .ok (.aload_n 2, 1) := by decide +kernel
theorem dX4_openDocument_23 : decode cX4_openDocument 23 = .ok (.areturn, 1) := by decide +kernel
theorem dX4_openDocument_24 : decode cX4_openDocument 24 = .ok (.new 40, 3) := by decide +kernel
theorem dX4_openDocument_27 : decode cX4_openDocument 27 = .ok (.dup, 1) := by decide +kernel
theorem dX4_openDocument_28 : decode cX4_openDocument 28 = .ok (.iload_n 1, 1) := by decide +kernel
theorem dX4_openDocument_29 : decode cX4_openDocument 29 = .ok (.invokespecial 42, 3) := by decide +kernel
theorem dX4_openDocument_32 : decode cX4_openDocument 32 = .ok (.astore_n 3, 1) := by decide +kernel
theorem dX4_openDocument_33 : decode cX4_openDocument 33 = .ok (.aload_n 0, 1) := by decide +kernel
theorem dX4_openDocument_34 : decode cX4_openDocument 34 = .ok (.getfield 12, 3) := by decide +kernel
theorem dX4_openDocument_37 : decode cX4_openDocument 37 = .ok (.aload_n 3, 1) := by decide +kernel
theorem dX4_openDocument_38 : decode cX4_openDocument 38 = .ok (.invokevirtual 45, 3) := by decide +kernel
theorem dX4_openDocument_41 : decode cX4_openDocument 41 = .ok (.pop, 1) := by decide +kernel
theorem dX4_openDocument_42 : decode cX4_openDocument 42 = .ok (.aload_n 3, 1) := by decide +kernel
theorem dX4_openDocument_43 : decode cX4_openDocument 43 = .ok (.areturn, 1) := by decide +kernel
theorem dX4_removeDocument_0 : decode cX4_removeDocument 0 = .ok (.aload_n 0, 1) := by decide +kernel
theorem dX4_removeDocument_1 : decode cX4_removeDocument 1 = .ok (.iload_n 1, 1) := by decide +kernel
theorem dX4_removeDocument_2 : decode cX4_removeDocument 2 = .ok (.invokevirtual 29, 3) := by decide +kernel
theorem dX4_removeDocument_5 : decode cX4_removeDocument 5 = .ok (.istore_n 2, 1) := by decide +kernel
theorem dX4_removeDocument_6 : decode cX4_removeDocument 6 = .ok (.aload_n 0, 1) := by decide +kernel
theorem dX4_removeDocument_7 : decode cX4_removeDocument 7 = .ok (.iload_n 2, 1) := by decide +kernel
theorem dX4_removeDocument_8 : decode cX4_removeDocument 8 = .ok (.invokevirtual 33, 3) := by decide +kernel
theorem dX4_removeDocument_11 : decode cX4_removeDocument 11 = .ok (.astore_n 3, 1) := by decide +kernel
theorem dX4_removeDocument_12 : decode cX4_removeDocument 12 = .ok (.aload_n 3, 1) := by decide +kernel
theorem dX4_removeDocument_13 : decode cX4_removeDocument 13 = .ok (.ifnonnull 5, 3) := by decide +kernel
theorem dX4_removeDocument_16 : decode cX4_removeDocument 16 = .ok (.iconst 0, 1) := by decide +kernel
theorem dX4_removeDocument_17 : decode cX4_removeDocument 17 = .ok (.ireturn, 1) := by decide +kernel
theorem dX4_removeDocument_18 : decode cX4_removeDocument 18 = .ok (.aload_n 0, 1) := by decide +kernel
theorem dX4_removeDocument_19 : decode cX4_removeDocument 19 = .ok (.aload_n 3, 1) := by decide +kernel
theorem dX4_removeDocument_20 : decode cX4_removeDocument 20 = .ok (.invokevirtual 49, 3) := by decide +kernel
theorem dX4_removeDocument_23 : decode cX4_removeDocument 23 = .ok (.aload_n 0, 1) := by decide +kernel
theorem dX4_removeDocument_24 : decode cX4_removeDocument 24 = .ok (.getfield 12, 3) := by decide +kernel
theorem dX4_removeDocument_27 : decode cX4_removeDocument 27 = .ok (.iload_n 2, 1) := by decide +kernel
theorem dX4_removeDocument_28 : decode cX4_removeDocument 28 = .ok (.invokevirtual 53, 3) := by decide +kernel
theorem dX4_removeDocument_31 : decode cX4_removeDocument 31 = .ok (.pop, 1) := by decide +kernel
theorem dX4_removeDocument_32 : decode cX4_removeDocument 32 = .ok (.iconst 1, 1) := by decide +kernel
theorem dX4_removeDocument_33 : decode cX4_removeDocument 33 = .ok (.ireturn, 1) := by decide +kernel
theorem dX4_rewrite_0 : decode cX4_rewrite 0 = .ok (.aload_n 0, 1) := by decide +kernel
theorem dX4_rewrite_1 : decode cX4_rewrite 1 = .ok (.aload_n 1, 1) := by decide +kernel
theorem dX4_rewrite_2 : decode cX4_rewrite 2 = .ok (.invokevirtual 49, 3) := by decide +kernel
theorem dX4_rewrite_5 : decode cX4_rewrite 5 = .ok (.aload_n 2, 1) := by decide +kernel
theorem dX4_rewrite_6 : decode cX4_rewrite 6 = .ok (.iconst 0, 1) := by decide +kernel
theorem dX4_rewrite_7 : decode cX4_rewrite 7 = .ok (.invokevirtual 57, 3) := by decide +kernel
theorem dX4_rewrite_10 : decode cX4_rewrite 10 = .ok (.istore_n 3, 1) := by decide +kernel
theorem dX4_rewrite_11 : decode cX4_rewrite 11 = .ok (.iconst 0, 1) := by decide +kernel
theorem dX4_rewrite_12 : decode cX4_rewrite 12 = .ok (.istore 4, 2) := by decide +kernel
theorem dX4_rewrite_14 : decode cX4_rewrite 14 = .ok (.iload 4, 2) := by decide +kernel
theorem dX4_rewrite_16 : decode cX4_rewrite 16 = .ok (.sipush 200, 3) := by decide +kernel
theorem dX4_rewrite_19 : decode cX4_rewrite 19 = .ok (.if_icmp .ge 50, 3) := by decide +kernel
theorem dX4_rewrite_22 : decode cX4_rewrite 22 = .ok (.iload_n 3, 1) := by decide +kernel
theorem dX4_rewrite_23 : decode cX4_rewrite 23 = .ok (.aload_n 2, 1) := by decide +kernel
theorem dX4_rewrite_24 : decode cX4_rewrite 24 = .ok (.invokevirtual 62, 3) := by decide +kernel
theorem dX4_rewrite_27 : decode cX4_rewrite 27 = .ok (.if_icmp .ge 42, 3) := by decide +kernel
theorem dX4_rewrite_30 : decode cX4_rewrite 30 = .ok (.aload_n 2, 1) := by decide +kernel
theorem dX4_rewrite_31 : decode cX4_rewrite 31 = .ok (.iload_n 3, 1) := by decide +kernel
theorem dX4_rewrite_32 : decode cX4_rewrite 32 = .ok (.invokevirtual 65, 3) := by decide +kernel
theorem dX4_rewrite_35 : decode cX4_rewrite 35 = .ok (.istore 5, 2) := by decide +kernel
theorem dX4_rewrite_37 : decode cX4_rewrite 37 = .ok (.aload_n 0, 1) := by decide +kernel
theorem dX4_rewrite_38 : decode cX4_rewrite 38 = .ok (.aload_n 1, 1) := by decide +kernel
theorem dX4_rewrite_39 : decode cX4_rewrite 39 = .ok (.aload_n 0, 1) := by decide +kernel
theorem dX4_rewrite_40 : decode cX4_rewrite 40 = .ok (.getfield 21, 3) := by decide +kernel
theorem dX4_rewrite_43 : decode cX4_rewrite 43 = .ok (.aload_n 2, 1) := by decide +kernel
theorem dX4_rewrite_44 : decode cX4_rewrite 44 = .ok (.iload_n 3, 1) := by decide +kernel
theorem dX4_rewrite_45 : decode cX4_rewrite 45 = .ok (.iload 5, 2) := by decide +kernel
theorem dX4_rewrite_47 : decode cX4_rewrite 47 = .ok (.invokevirtual 68, 3) := by decide +kernel
theorem dX4_rewrite_50 : decode cX4_rewrite 50 = .ok (.invokevirtual 72, 3) := by decide +kernel
theorem dX4_rewrite_53 : decode cX4_rewrite 53 = .ok (.invokevirtual 76, 3) := by decide +kernel
theorem dX4_rewrite_56 : decode cX4_rewrite 56 = .ok (.aload_n 2, 1) := by decide +kernel
theorem dX4_rewrite_57 : decode cX4_rewrite 57 = .ok (.iload 5, 2) := by decide +kernel
theorem dX4_rewrite_59 : decode cX4_rewrite 59 = .ok (.invokevirtual 57, 3) := by decide +kernel
theorem dX4_rewrite_62 : decode cX4_rewrite 62 = .ok (.istore_n 3, 1) := by decide +kernel
theorem dX4_rewrite_63 : decode cX4_rewrite 63 = .ok (.iinc 4 1, 3) := by decide +kernel
theorem dX4_rewrite_66 : decode cX4_rewrite 66 = .ok (.goto (-52), 3) := by decide +kernel
theorem dX4_rewrite_69 : decode cX4_rewrite 69 = .ok (.return_, 1) := by decide +kernel
theorem dX4_rarity_0 : decode cX4_rarity 0 = .ok (.aload_n 1, 1) := by decide +kernel
theorem dX4_rarity_1 : decode cX4_rarity 1 = .ok (.getfield 80, 3) := by decide +kernel
theorem dX4_rarity_4 : decode cX4_rarity 4 = .ok (.iconst 1, 1) := by decide +kernel
theorem dX4_rarity_5 : decode cX4_rarity 5 = .ok (.if_icmp .ge 5, 3) := by decide +kernel
theorem dX4_rarity_8 : decode cX4_rarity 8 = .ok (.iconst 0, 1) := by decide +kernel
theorem dX4_rarity_9 : decode cX4_rarity 9 = .ok (.ireturn, 1) := by decide +kernel
theorem dX4_rarity_10 : decode cX4_rarity 10 = .ok (.aload_n 0, 1) := by decide +kernel
theorem dX4_rarity_11 : decode cX4_rarity 11 = .ok (.getfield 12, 3) := by decide +kernel
theorem dX4_rarity_14 : decode cX4_rarity 14 = .ok (.invokevirtual 25, 3) := by decide +kernel
theorem dX4_rarity_17 : decode cX4_rarity 17 = .ok (.aload_n 1, 1) := by decide +kernel
theorem dX4_rarity_18 : decode cX4_rarity 18 = .ok (.getfield 80, 3) := by decide +kernel
theorem dX4_rarity_21 : decode cX4_rarity 21 = .ok (.idiv, 1) := by decide +kernel
theorem dX4_rarity_22 : decode cX4_rarity 22 = .ok (.istore_n 2, 1) := by decide +kernel
theorem dX4_rarity_23 : decode cX4_rarity 23 = .ok (.iconst 0, 1) := by decide +kernel
theorem dX4_rarity_24 : decode cX4_rarity 24 = .ok (.istore_n 3, 1) := by decide +kernel
theorem dX4_rarity_25 : decode cX4_rarity 25 = .ok (.iload_n 3, 1) := by decide +kernel
theorem dX4_rarity_26 : decode cX4_rarity 26 = .ok (.bipush 31, 2) := by decide +kernel
theorem dX4_rarity_28 : decode cX4_rarity 28 = .ok (.if_icmp .ge 15, 3) := by decide +kernel
theorem dX4_rarity_31 : decode cX4_rarity 31 = .ok (.iload_n 2, 1) := by decide +kernel
theorem dX4_rarity_32 : decode cX4_rarity 32 = .ok (.iload_n 3, 1) := by decide +kernel
theorem dX4_rarity_33 : decode cX4_rarity 33 = .ok (.ishr, 1) := by decide +kernel
theorem dX4_rarity_34 : decode cX4_rarity 34 = .ok (.ifCond .eq 9, 3) := by decide +kernel
theorem dX4_rarity_37 : decode cX4_rarity 37 = .ok (.iinc 3 1, 3) := by decide +kernel
theorem dX4_rarity_40 : decode cX4_rarity 40 = .ok (.goto (-15), 3) := by decide +kernel
theorem dX4_rarity_43 : decode cX4_rarity 43 = .ok (.iload_n 3, 1) := by decide +kernel
theorem dX4_rarity_44 : decode cX4_rarity 44 = .ok (.ireturn, 1) := by decide +kernel
theorem dX4_documentAt_0 : decode cX4_documentAt 0 = .ok (.iload_n 1, 1) := by decide +kernel
theorem dX4_documentAt_1 : decode cX4_documentAt 1 = .ok (.ifCond .lt 28, 3) := by decide +kernel
theorem dX4_documentAt_4 : decode cX4_documentAt 4 = .ok (.iload_n 1, 1) := by decide +kernel
theorem dX4_documentAt_5 : decode cX4_documentAt 5 = .ok (.aload_n 0, 1) := by decide +kernel
theorem dX4_documentAt_6 : decode cX4_documentAt 6 = .ok (.getfield 12, 3) := by decide +kernel
theorem dX4_documentAt_9 : decode cX4_documentAt 9 = .ok (.invokevirtual 25, 3) := by decide +kernel
theorem dX4_documentAt_12 : decode cX4_documentAt 12 = .ok (.if_icmp .ge 17, 3) := by decide +kernel
theorem dX4_documentAt_15 : decode cX4_documentAt 15 = .ok (.aload_n 0, 1) := by decide +kernel
theorem dX4_documentAt_16 : decode cX4_documentAt 16 = .ok (.getfield 12, 3) := by decide +kernel
theorem dX4_documentAt_19 : decode cX4_documentAt 19 = .ok (.iload_n 1, 1) := by decide +kernel
theorem dX4_documentAt_20 : decode cX4_documentAt 20 = .ok (.invokevirtual 86, 3) := by decide +kernel
theorem dX4_documentAt_23 : decode cX4_documentAt 23 = .ok (.checkcast 40, 3) := by decide +kernel
theorem dX4_documentAt_26 : decode cX4_documentAt 26 = .ok (.goto 4, 3) := by decide +kernel
theorem dX4_documentAt_29 : decode cX4_documentAt 29 = .ok (.aconst_null, 1) := by decide +kernel
theorem dX4_documentAt_30 : decode cX4_documentAt 30 = .ok (.areturn, 1) := by decide +kernel
theorem dX4_indexOf_0 : decode cX4_indexOf 0 = .ok (.iconst 0, 1) := by decide +kernel
theorem dX4_indexOf_1 : decode cX4_indexOf 1 = .ok (.istore_n 2, 1) := by decide +kernel
theorem dX4_indexOf_2 : decode cX4_indexOf 2 = .ok (.iload_n 2, 1) := by decide +kernel
theorem dX4_indexOf_3 : decode cX4_indexOf 3 = .ok (.aload_n 0, 1) := by decide +kernel
theorem dX4_indexOf_4 : decode cX4_indexOf 4 = .ok (.getfield 12, 3) := by decide +kernel
theorem dX4_indexOf_7 : decode cX4_indexOf 7 = .ok (.invokevirtual 25, 3) := by decide +kernel
theorem dX4_indexOf_10 : decode cX4_indexOf 10 = .ok (.if_icmp .ge 29, 3) := by decide +kernel
theorem dX4_indexOf_13 : decode cX4_indexOf 13 = .ok (.aload_n 0, 1) := by decide +kernel
theorem dX4_indexOf_14 : decode cX4_indexOf 14 = .ok (.iload_n 2, 1) := by decide +kernel
theorem dX4_indexOf_15 : decode cX4_indexOf 15 = .ok (.invokevirtual 33, 3) := by decide +kernel
theorem dX4_indexOf_18 : decode cX4_indexOf 18 = .ok (.astore_n 3, 1) := by decide +kernel
theorem dX4_indexOf_19 : decode cX4_indexOf 19 = .ok (.aload_n 3, 1) := by decide +kernel
theorem dX4_indexOf_20 : decode cX4_indexOf 20 = .ok (.ifnull 13, 3) := by decide +kernel
theorem dX4_indexOf_23 : decode cX4_indexOf 23 = .ok (.aload_n 3, 1) := by decide +kernel
theorem dX4_indexOf_24 : decode cX4_indexOf 24 = .ok (.getfield 89, 3) := by decide +kernel
theorem dX4_indexOf_27 : decode cX4_indexOf 27 = .ok (.iload_n 1, 1) := by decide +kernel
theorem dX4_indexOf_28 : decode cX4_indexOf 28 = .ok (.if_icmp .ne 5, 3) := by decide +kernel
theorem dX4_indexOf_31 : decode cX4_indexOf 31 = .ok (.iload_n 2, 1) := by decide +kernel
theorem dX4_indexOf_32 : decode cX4_indexOf 32 = .ok (.ireturn, 1) := by decide +kernel
theorem dX4_indexOf_33 : decode cX4_indexOf 33 = .ok (.iinc 2 1, 3) := by decide +kernel
theorem dX4_indexOf_36 : decode cX4_indexOf 36 = .ok (.goto (-34), 3) := by decide +kernel
theorem dX4_indexOf_39 : decode cX4_indexOf 39 = .ok (.iconst (-1), 1) := by decide +kernel
theorem dX4_indexOf_40 : decode cX4_indexOf 40 = .ok (.ireturn, 1) := by decide +kernel
theorem dX4_count_0 : decode cX4_count 0 = .ok (.aload_n 2, 1) := by decide +kernel
theorem dX4_count_1 : decode cX4_count 1 = .ok (.getfield 92, 3) := by decide +kernel
theorem dX4_count_4 : decode cX4_count 4 = .ok (.astore_n 3, 1) := by decide +kernel
theorem dX4_count_5 : decode cX4_count 5 = .ok (.aload_n 3, 1) := by decide +kernel
theorem dX4_count_6 : decode cX4_count 6 = .ok (.ifnull 11, 3) := by decide +kernel
theorem dX4_count_9 : decode cX4_count 9 = .ok (.aload_n 3, 1) := by decide +kernel
theorem dX4_count_10 : decode cX4_count 10 = .ok (.getfield 96, 3) := by decide +kernel
theorem dX4_count_13 : decode cX4_count 13 = .ok (.aload_n 1, 1) := by decide +kernel
theorem dX4_count_14 : decode cX4_count 14 = .ok (.if_acmp .eq 10, 3) := by decide +kernel
theorem dX4_count_17 : decode cX4_count 17 = .ok (.aload_n 0, 1) := by decide +kernel
theorem dX4_count_18 : decode cX4_count 18 = .ok (.aload_n 1, 1) := by decide +kernel
theorem dX4_count_19 : decode cX4_count 19 = .ok (.aload_n 2, 1) := by decide +kernel
theorem dX4_count_20 : decode cX4_count 20 = .ok (.invokevirtual 102, 3) := by decide +kernel
theorem dX4_count_23 : decode cX4_count 23 = .ok (.astore_n 3, 1) := by decide +kernel
theorem dX4_count_24 : decode cX4_count 24 = .ok (.aload_n 3, 1) := by decide +kernel
theorem dX4_count_25 : decode cX4_count 25 = .ok (.dup, 1) := by decide +kernel
theorem dX4_count_26 : decode cX4_count 26 = .ok (.getfield 106, 3) := by decide +kernel
theorem dX4_count_29 : decode cX4_count 29 = .ok (.iconst 1, 1) := by decide +kernel
theorem dX4_count_30 : decode cX4_count 30 = .ok (.iadd, 1) := by decide +kernel
theorem dX4_count_31 : decode cX4_count 31 = .ok (.putfield 106, 3) := by decide +kernel
theorem dX4_count_34 : decode cX4_count 34 = .ok (.aload_n 2, 1) := by decide +kernel
theorem dX4_count_35 : decode cX4_count 35 = .ok (.dup, 1) := by decide +kernel
theorem dX4_count_36 : decode cX4_count 36 = .ok (.getfield 109, 3) := by decide +kernel
theorem dX4_count_39 : decode cX4_count 39 = .ok (.iconst 1, 1) := by decide +kernel
theorem dX4_count_40 : decode cX4_count 40 = .ok (.iadd, 1) := by decide +kernel
theorem dX4_count_41 : decode cX4_count 41 = .ok (.putfield 109, 3) := by decide +kernel
theorem dX4_count_44 : decode cX4_count 44 = .ok (.aload_n 1, 1) := by decide +kernel
theorem dX4_count_45 : decode cX4_count 45 = .ok (.dup, 1) := by decide +kernel
theorem dX4_count_46 : decode cX4_count 46 = .ok (.getfield 112, 3) := by decide +kernel
theorem dX4_count_49 : decode cX4_count 49 = .ok (.iconst 1, 1) := by decide +kernel
theorem dX4_count_50 : decode cX4_count 50 = .ok (.iadd, 1) := by decide +kernel
theorem dX4_count_51 : decode cX4_count 51 = .ok (.putfield 112, 3) := by decide +kernel
theorem dX4_count_54 : decode cX4_count 54 = .ok (.aload_n 0, 1) := by decide +kernel
theorem dX4_count_55 : decode cX4_count 55 = .ok (.dup, 1) := by decide +kernel
theorem dX4_count_56 : decode cX4_count 56 = .ok (.getfield 114, 3) := by decide +kernel
theorem dX4_count_59 : decode cX4_count 59 = .ok (.iconst 1, 1) := by decide +kernel
theorem dX4_count_60 : decode cX4_count 60 = .ok (.iadd, 1) := by decide +kernel
theorem dX4_count_61 : decode cX4_count 61 = .ok (.putfield 114, 3) := by decide +kernel
theorem dX4_count_64 : decode cX4_count 64 = .ok (.return_, 1) := by decide +kernel
theorem dX4_post_0 : decode cX4_post 0 = .ok (.aload_n 0, 1) := by decide +kernel
theorem dX4_post_1 : decode cX4_post 1 = .ok (.invokevirtual 117, 3) := by decide +kernel
theorem dX4_post_4 : decode cX4_post 4 = .ok (.astore_n 3, 1) := by decide +kernel
theorem dX4_post_5 : decode cX4_post 5 = .ok (.aload_n 3, 1) := by decide +kernel
theorem dX4_post_6 : decode cX4_post 6 = .ok (.aload_n 2, 1) := by decide +kernel
theorem dX4_post_7 : decode cX4_post 7 = .ok (.putfield 121, 3) := by decide +kernel
theorem dX4_post_10 : decode cX4_post 10 = .ok (.aload_n 3, 1) := by decide +kernel
theorem dX4_post_11 : decode cX4_post 11 = .ok (.aload_n 1, 1) := by decide +kernel
theorem dX4_post_12 : decode cX4_post 12 = .ok (.putfield 96, 3) := by decide +kernel
theorem dX4_post_15 : decode cX4_post 15 = .ok (.aload_n 3, 1) := by decide +kernel
theorem dX4_post_16 : decode cX4_post 16 = .ok (.iconst 0, 1) := by decide +kernel
theorem dX4_post_17 : decode cX4_post 17 = .ok (.putfield 106, 3) := by decide +kernel
theorem dX4_post_20 : decode cX4_post 20 = .ok (.aload_n 3, 1) := by decide +kernel
theorem dX4_post_21 : decode cX4_post 21 = .ok (.aload_n 1, 1) := by decide +kernel
theorem dX4_post_22 : decode cX4_post 22 = .ok (.getfield 125, 3) := by decide +kernel
theorem dX4_post_25 : decode cX4_post 25 = .ok (.putfield 126, 3) := by decide +kernel
theorem dX4_post_28 : decode cX4_post 28 = .ok (.aload_n 1, 1) := by decide +kernel
theorem dX4_post_29 : decode cX4_post 29 = .ok (.aload_n 3, 1) := by decide +kernel
theorem dX4_post_30 : decode cX4_post 30 = .ok (.putfield 125, 3) := by decide +kernel
theorem dX4_post_33 : decode cX4_post 33 = .ok (.aload_n 2, 1) := by decide +kernel
theorem dX4_post_34 : decode cX4_post 34 = .ok (.aload_n 3, 1) := by decide +kernel
theorem dX4_post_35 : decode cX4_post 35 = .ok (.invokevirtual 129, 3) := by decide +kernel
theorem dX4_post_38 : decode cX4_post 38 = .ok (.aload_n 3, 1) := by decide +kernel
theorem dX4_post_39 : decode cX4_post 39 = .ok (.areturn, 1) := by decide +kernel
theorem dX4_forgetWords_0 : decode cX4_forgetWords 0 = .ok (.aload_n 1, 1) := by decide +kernel
theorem dX4_forgetWords_1 : decode cX4_forgetWords 1 = .ok (.getfield 125, 3) := by decide +kernel
theorem dX4_forgetWords_4 : decode cX4_forgetWords 4 = .ok (.astore_n 2, 1) := by decide +kernel
theorem dX4_forgetWords_5 : decode cX4_forgetWords 5 = .ok (.aload_n 2, 1) := by decide +kernel
theorem dX4_forgetWords_6 : decode cX4_forgetWords 6 = .ok (.ifnull 18, 3) := by decide +kernel
theorem dX4_forgetWords_9 : decode cX4_forgetWords 9 = .ok (.aload_n 2, 1) := by decide +kernel
theorem dX4_forgetWords_10 : decode cX4_forgetWords 10 = .ok (.getfield 126, 3) := by decide +kernel
theorem dX4_forgetWords_13 : decode cX4_forgetWords 13 = .ok (.astore_n 3, 1) := by decide +kernel
theorem dX4_forgetWords_14 : decode cX4_forgetWords 14 = .ok (.aload_n 0, 1) := by decide +kernel
theorem dX4_forgetWords_15 : decode cX4_forgetWords 15 = .ok (.aload_n 2, 1) := by decide +kernel
theorem dX4_forgetWords_16 : decode cX4_forgetWords 16 = .ok (.invokevirtual 133, 3) := by decide +kernel
theorem dX4_forgetWords_19 : decode cX4_forgetWords 19 = .ok (.aload_n 3, 1) := by decide +kernel
theorem dX4_forgetWords_20 : decode cX4_forgetWords 20 = .ok (.astore_n 2, 1) := by decide +kernel
theorem dX4_forgetWords_21 : decode cX4_forgetWords 21 = .ok (.goto (-16), 3) := by decide +kernel
theorem dX4_forgetWords_24 : decode cX4_forgetWords 24 = .ok (.aload_n 0, 1) := by decide +kernel
theorem dX4_forgetWords_25 : decode cX4_forgetWords 25 = .ok (.dup, 1) := by decide +kernel
theorem dX4_forgetWords_26 : decode cX4_forgetWords 26 = .ok (.getfield 114, 3) := by decide +kernel
theorem dX4_forgetWords_29 : decode cX4_forgetWords 29 = .ok (.aload_n 1, 1) := by decide +kernel
theorem dX4_forgetWords_30 : decode cX4_forgetWords 30 = .ok (.getfield 112, 3) := by decide +kernel
theorem dX4_forgetWords_33 : decode cX4_forgetWords 33 = .ok (.isub, 1) := by decide +kernel
theorem dX4_forgetWords_34 : decode cX4_forgetWords 34 = .ok (.putfield 114, 3) := by decide +kernel
theorem dX4_forgetWords_37 : decode cX4_forgetWords 37 = .ok (.aload_n 1, 1) := by decide +kernel
theorem dX4_forgetWords_38 : decode cX4_forgetWords 38 = .ok (.iconst 0, 1) := by decide +kernel
theorem dX4_forgetWords_39 : decode cX4_forgetWords 39 = .ok (.putfield 112, 3) := by decide +kernel
theorem dX4_forgetWords_42 : decode cX4_forgetWords 42 = .ok (.aload_n 1, 1) := by decide +kernel
theorem dX4_forgetWords_43 : decode cX4_forgetWords 43 = .ok (.aconst_null, 1) := by decide +kernel
theorem dX4_forgetWords_44 : decode cX4_forgetWords 44 = .ok (.putfield 125, 3) := by decide +kernel
theorem dX4_forgetWords_47 : decode cX4_forgetWords 47 = .ok (.return_, 1) := by decide +kernel
theorem dX4_release_0 : decode cX4_release 0 = .ok (.aload_n 1, 1) := by decide +kernel
theorem dX4_release_1 : decode cX4_release 1 = .ok (.getfield 121, 3) := by decide +kernel
theorem dX4_release_4 : decode cX4_release 4 = .ok (.astore_n 2, 1) := by decide +kernel
theorem dX4_release_5 : decode cX4_release 5 = .ok (.aload_n 2, 1) := by decide +kernel
theorem dX4_release_6 : decode cX4_release 6 = .ok (.ifnull 23, 3) := by decide +kernel
theorem dX4_release_9 : decode cX4_release 9 = .ok (.aload_n 2, 1) := by decide +kernel
theorem dX4_release_10 : decode cX4_release 10 = .ok (.aload_n 1, 1) := by decide +kernel
theorem dX4_release_11 : decode cX4_release 11 = .ok (.invokevirtual 136, 3) := by decide +kernel
theorem dX4_release_14 : decode cX4_release 14 = .ok (.aload_n 2, 1) := by decide +kernel
theorem dX4_release_15 : decode cX4_release 15 = .ok (.getfield 92, 3) := by decide +kernel
theorem dX4_release_18 : decode cX4_release 18 = .ok (.ifnonnull 11, 3) := by decide +kernel
theorem dX4_release_21 : decode cX4_release 21 = .ok (.aload_n 0, 1) := by decide +kernel
theorem dX4_release_22 : decode cX4_release 22 = .ok (.getfield 21, 3) := by decide +kernel
theorem dX4_release_25 : decode cX4_release 25 = .ok (.aload_n 2, 1) := by decide +kernel
theorem dX4_release_26 : decode cX4_release 26 = .ok (.invokevirtual 139, 3) := by decide +kernel
theorem dX4_release_29 : decode cX4_release 29 = .ok (.aload_n 1, 1) := by decide +kernel
theorem dX4_release_30 : decode cX4_release 30 = .ok (.aconst_null, 1) := by decide +kernel
theorem dX4_release_31 : decode cX4_release 31 = .ok (.putfield 121, 3) := by decide +kernel
theorem dX4_release_34 : decode cX4_release 34 = .ok (.aload_n 1, 1) := by decide +kernel
theorem dX4_release_35 : decode cX4_release 35 = .ok (.aconst_null, 1) := by decide +kernel
theorem dX4_release_36 : decode cX4_release 36 = .ok (.putfield 96, 3) := by decide +kernel
theorem dX4_release_39 : decode cX4_release 39 = .ok (.aload_n 1, 1) := by decide +kernel
theorem dX4_release_40 : decode cX4_release 40 = .ok (.aload_n 0, 1) := by decide +kernel
theorem dX4_release_41 : decode cX4_release 41 = .ok (.getfield 143, 3) := by decide +kernel
theorem dX4_release_44 : decode cX4_release 44 = .ok (.putfield 126, 3) := by decide +kernel
theorem dX4_release_47 : decode cX4_release 47 = .ok (.aload_n 0, 1) := by decide +kernel
theorem dX4_release_48 : decode cX4_release 48 = .ok (.aload_n 1, 1) := by decide +kernel
theorem dX4_release_49 : decode cX4_release 49 = .ok (.putfield 143, 3) := by decide +kernel
theorem dX4_release_52 : decode cX4_release 52 = .ok (.return_, 1) := by decide +kernel
theorem dX4_takePosting_0 : decode cX4_takePosting 0 = .ok (.aload_n 0, 1) := by decide +kernel
theorem dX4_takePosting_1 : decode cX4_takePosting 1 = .ok (.getfield 143, 3) := by decide +kernel
theorem dX4_takePosting_4 : decode cX4_takePosting 4 = .ok (.ifnonnull 11, 3) := by decide +kernel
theorem dX4_takePosting_7 : decode cX4_takePosting 7 = .ok (.new 97, 3) := by decide +kernel
theorem dX4_takePosting_10 : decode cX4_takePosting 10 = .ok (.dup, 1) := by decide +kernel
theorem dX4_takePosting_11 : decode cX4_takePosting 11 = .ok (.invokespecial 146, 3) := by decide +kernel
theorem dX4_takePosting_14 : decode cX4_takePosting 14 = .ok (.areturn, 1) := by decide +kernel
theorem dX4_takePosting_15 : decode cX4_takePosting 15 = .ok (.aload_n 0, 1) := by decide +kernel
theorem dX4_takePosting_16 : decode cX4_takePosting 16 = .ok (.getfield 143, 3) := by decide +kernel
theorem dX4_takePosting_19 : decode cX4_takePosting 19 = .ok (.astore_n 1, 1) := by decide +kernel
theorem dX4_takePosting_20 : decode cX4_takePosting 20 = .ok (.aload_n 0, 1) := by decide +kernel
theorem dX4_takePosting_21 : decode cX4_takePosting 21 = .ok (.aload_n 1, 1) := by decide +kernel
theorem dX4_takePosting_22 : decode cX4_takePosting 22 = .ok (.getfield 126, 3) := by decide +kernel
theorem dX4_takePosting_25 : decode cX4_takePosting 25 = .ok (.putfield 143, 3) := by decide +kernel
theorem dX4_takePosting_28 : decode cX4_takePosting 28 = .ok (.aload_n 1, 1) := by decide +kernel
theorem dX4_takePosting_29 : decode cX4_takePosting 29 = .ok (.areturn, 1) := by decide +kernel
theorem dX5_init_0 : decode cX5_init 0 = .ok (.aload_n 0, 1) := by decide +kernel
theorem dX5_init_1 : decode cX5_init 1 = .ok (.invokespecial 1, 3) := by decide +kernel
theorem dX5_init_4 : decode cX5_init 4 = .ok (.return_, 1) := by decide +kernel
theorem dX5_impact_0 : decode cX5_impact 0 = .ok (.aload_n 0, 1) := by decide +kernel
theorem dX5_impact_1 : decode cX5_impact 1 = .ok (.getfield 7, 3) := by decide +kernel
theorem dX5_impact_4 : decode cX5_impact 4 = .ok (.ifnonnull 7, 3) := by decide +kernel
theorem dX5_impact_7 : decode cX5_impact 7 = .ok (.iconst 0, 1) := by decide +kernel
theorem dX5_impact_8 : decode cX5_impact 8 = .ok (.goto 20, 3) := by decide +kernel
theorem dX5_impact_11 : decode cX5_impact 11 = .ok (.aload_n 0, 1) := by decide +kernel
theorem dX5_impact_12 : decode cX5_impact 12 = .ok (.getfield 13, 3) := by decide +kernel
theorem dX5_impact_15 : decode cX5_impact 15 = .ok (.iconst 1, 1) := by decide +kernel
theorem dX5_impact_16 : decode cX5_impact 16 = .ok (.iadd, 1) := by decide +kernel
theorem dX5_impact_17 : decode cX5_impact 17 = .ok (.aload_n 0, 1) := by decide +kernel
theorem dX5_impact_18 : decode cX5_impact 18 = .ok (.getfield 7, 3) := by decide +kernel
theorem dX5_impact_21 : decode cX5_impact 21 = .ok (.getfield 17, 3) := by decide +kernel
theorem dX5_impact_24 : decode cX5_impact 24 = .ok (.bipush 8, 2) := by decide +kernel
theorem dX5_impact_26 : decode cX5_impact 26 = .ok (.idiv, 1) := by decide +kernel
theorem dX5_impact_27 : decode cX5_impact 27 = .ok (.iadd, 1) := by decide +kernel
theorem dX5_impact_28 : decode cX5_impact 28 = .ok (.istore_n 1, 1) := by decide +kernel
theorem dX5_impact_29 : decode cX5_impact 29 = .ok (.iload_n 1, 1) := by decide +kernel
theorem dX5_impact_30 : decode cX5_impact 30 = .ok (.iconst 1, 1) := by decide +kernel
theorem dX5_impact_31 : decode cX5_impact 31 = .ok (.if_icmp .ge 7, 3) := by decide +kernel
theorem dX5_impact_34 : decode cX5_impact 34 = .ok (.iconst 0, 1) := by decide +kernel
theorem dX5_impact_35 : decode cX5_impact 35 = .ok (.goto 13, 3) := by decide +kernel
theorem dX5_impact_38 : decode cX5_impact 38 = .ok (.sipush 256, 3) := by decide +kernel
theorem dX5_impact_41 : decode cX5_impact 41 = .ok (.aload_n 0, 1) := by decide +kernel
theorem dX5_impact_42 : decode cX5_impact 42 = .ok (.getfield 13, 3) := by decide +kernel
theorem dX5_impact_45 : decode cX5_impact 45 = .ok (.imul, 1) := by decide +kernel
theorem dX5_impact_46 : decode cX5_impact 46 = .ok (.iload_n 1, 1) := by decide +kernel
theorem dX5_impact_47 : decode cX5_impact 47 = .ok (.idiv, 1) := by decide +kernel
theorem dX5_impact_48 : decode cX5_impact 48 = .ok (.ireturn, 1) := by decide +kernel
theorem dX6_init_0 : decode cX6_init 0 = .ok (.aload_n 0, 1) := by decide +kernel
theorem dX6_init_1 : decode cX6_init 1 = .ok (.invokespecial 3, 3) := by decide +kernel
theorem dX6_init_4 : decode cX6_init 4 = .ok (.aload_n 0, 1) := by decide +kernel
theorem dX6_init_5 : decode cX6_init 5 = .ok (.bipush 16, 2) := by decide +kernel
theorem dX6_init_7 : decode cX6_init 7 = .ok (.anewarray 9, 3) := by decide +kernel
theorem dX6_init_10 : decode cX6_init 10 = .ok (.putfield 11, 3) := by decide +kernel
theorem dX6_init_13 : decode cX6_init 13 = .ok (.aload_n 0, 1) := by decide +kernel
theorem dX6_init_14 : decode cX6_init 14 = .ok (.new 9, 3) := by decide +kernel
theorem dX6_init_17 : decode cX6_init 17 = .ok (.dup, 1) := by decide +kernel
theorem dX6_init_18 : decode cX6_init 18 = .ok (.invokespecial 17, 3) := by decide +kernel
theorem dX6_init_21 : decode cX6_init 21 = .ok (.putfield 18, 3) := by decide +kernel
theorem dX6_init_24 : decode cX6_init 24 = .ok (.aload_n 0, 1) := by decide +kernel
theorem dX6_init_25 : decode cX6_init 25 = .ok (.iconst 0, 1) := by decide +kernel
theorem dX6_init_26 : decode cX6_init 26 = .ok (.putfield 22, 3) := by decide +kernel
theorem dX6_init_29 : decode cX6_init 29 = .ok (.aload_n 0, 1) := by decide +kernel
theorem dX6_init_30 : decode cX6_init 30 = .ok (.iconst (-1), 1) := by decide +kernel
theorem dX6_init_31 : decode cX6_init 31 = .ok (.putfield 26, 3) := by decide +kernel
theorem dX6_init_34 : decode cX6_init 34 = .ok (.iconst 0, 1) := by decide +kernel
theorem dX6_init_35 : decode cX6_init 35 = .ok (.istore_n 1, 1) := by decide +kernel
theorem dX6_init_36 : decode cX6_init 36 = .ok (.iload_n 1, 1) := by decide +kernel
theorem dX6_init_37 : decode cX6_init 37 = .ok (.aload_n 0, 1) := by decide +kernel
theorem dX6_init_38 : decode cX6_init 38 = .ok (.getfield 11, 3) := by decide +kernel
theorem dX6_init_41 : decode cX6_init 41 = .ok (.arraylength, 1) := by decide +kernel
theorem dX6_init_42 : decode cX6_init 42 = .ok (.if_icmp .ge 22, 3) := by decide +kernel
theorem dX6_init_45 : decode cX6_init 45 = .ok (.aload_n 0, 1) := by decide +kernel
theorem dX6_init_46 : decode cX6_init 46 = .ok (.getfield 11, 3) := by decide +kernel
theorem dX6_init_49 : decode cX6_init 49 = .ok (.iload_n 1, 1) := by decide +kernel
theorem dX6_init_50 : decode cX6_init 50 = .ok (.new 9, 3) := by decide +kernel
theorem dX6_init_53 : decode cX6_init 53 = .ok (.dup, 1) := by decide +kernel
theorem dX6_init_54 : decode cX6_init 54 = .ok (.invokespecial 17, 3) := by decide +kernel
theorem dX6_init_57 : decode cX6_init 57 = .ok (.aastore, 1) := by decide +kernel
theorem dX6_init_58 : decode cX6_init 58 = .ok (.iinc 1 1, 3) := by decide +kernel
theorem dX6_init_61 : decode cX6_init 61 = .ok (.goto (-25), 3) := by decide +kernel
theorem dX6_init_64 : decode cX6_init 64 = .ok (.return_, 1) := by decide +kernel
theorem dX6_termAt_0 : decode cX6_termAt 0 = .ok (.iload_n 1, 1) := by decide +kernel
theorem dX6_termAt_1 : decode cX6_termAt 1 = .ok (.ifCond .lt 29, 3) := by decide +kernel
theorem dX6_termAt_4 : decode cX6_termAt 4 = .ok (.iload_n 1, 1) := by decide +kernel
theorem dX6_termAt_5 : decode cX6_termAt 5 = .ok (.aload_n 0, 1) := by decide +kernel
theorem dX6_termAt_6 : decode cX6_termAt 6 = .ok (.getfield 29, 3) := by decide +kernel
theorem dX6_termAt_9 : decode cX6_termAt 9 = .ok (.if_icmp .ge 21, 3) := by decide +kernel
theorem dX6_termAt_12 : decode cX6_termAt 12 = .ok (.iload_n 1, 1) := by decide +kernel
theorem dX6_termAt_13 : decode cX6_termAt 13 = .ok (.aload_n 0, 1) := by decide +kernel
theorem dX6_termAt_14 : decode cX6_termAt 14 = .ok (.getfield 11, 3) := by decide +kernel
theorem dX6_termAt_17 : decode cX6_termAt 17 = .ok (.arraylength, 1) := by decide +kernel
theorem dX6_termAt_18 : decode cX6_termAt 18 = .ok (.if_icmp .ge 12, 3) := by decide +kernel
theorem dX6_termAt_21 : decode cX6_termAt 21 = .ok (.aload_n 0, 1) := by decide +kernel
theorem dX6_termAt_22 : decode cX6_termAt 22 = .ok (.getfield 11, 3) := by decide +kernel
theorem dX6_termAt_25 : decode cX6_termAt 25 = .ok (.iload_n 1, 1) := by decide +kernel
theorem dX6_termAt_26 : decode cX6_termAt 26 = .ok (.aaload, 1) := by decide +kernel
theorem dX6_termAt_27 : decode cX6_termAt 27 = .ok (.goto 4, 3) := by decide +kernel
theorem dX6_termAt_30 : decode cX6_termAt 30 = .ok (.aconst_null, 1) := by decide +kernel
theorem dX6_termAt_31 : decode cX6_termAt 31 = .ok (.areturn, 1) := by decide +kernel
theorem dX6_read_0 : decode cX6_read 0 = .ok (.aload_n 0, 1) := by decide +kernel
theorem dX6_read_1 : decode cX6_read 1 = .ok (.iconst 0, 1) := by decide +kernel
theorem dX6_read_2 : decode cX6_read 2 = .ok (.putfield 29, 3) := by decide +kernel
theorem dX6_read_5 : decode cX6_read 5 = .ok (.aload_n 0, 1) := by decide +kernel
theorem dX6_read_6 : decode cX6_read 6 = .ok (.iconst 0, 1) := by decide +kernel
theorem dX6_read_7 : decode cX6_read 7 = .ok (.putfield 32, 3) := by decide +kernel
theorem dX6_read_10 : decode cX6_read 10 = .ok (.aload_n 0, 1) := by decide +kernel
theorem dX6_read_11 : decode cX6_read 11 = .ok (.iconst 0, 1) := by decide +kernel
theorem dX6_read_12 : decode cX6_read 12 = .ok (.putfield 22, 3) := by decide +kernel
theorem dX6_read_15 : decode cX6_read 15 = .ok (.aload_n 0, 1) := by decide +kernel
theorem dX6_read_16 : decode cX6_read 16 = .ok (.iconst (-1), 1) := by decide +kernel
theorem dX6_read_17 : decode cX6_read 17 = .ok (.putfield 26, 3) := by decide +kernel
theorem dX6_read_20 : decode cX6_read 20 = .ok (.iconst 0, 1) := by decide +kernel
theorem dX6_read_21 : decode cX6_read 21 = .ok (.istore_n 2, 1) := by decide +kernel
theorem dX6_read_22 : decode cX6_read 22 = .ok (.iload_n 2, 1) := by decide +kernel
theorem dX6_read_23 : decode cX6_read 23 = .ok (.aload_n 1, 1) := by decide +kernel
theorem dX6_read_24 : decode cX6_read 24 = .ok (.invokevirtual 35, 3) := by decide +kernel
theorem dX6_read_27 : decode cX6_read 27 = .ok (.if_icmp .ge 30, 3) := by decide +kernel
theorem dX6_read_30 : decode cX6_read 30 = .ok (.aload_n 0, 1) := by decide +kernel
theorem dX6_read_31 : decode cX6_read 31 = .ok (.getfield 22, 3) := by decide +kernel
theorem dX6_read_34 : decode cX6_read 34 = .ok (.ifCond .ne 23, 3) := by decide +kernel
theorem dX6_read_37 : decode cX6_read 37 = .ok (.aload_n 0, 1) := by decide +kernel
theorem dX6_read_38 : decode cX6_read 38 = .ok (.aload_n 0, 1) := by decide +kernel
theorem dX6_read_39 : decode cX6_read 39 = .ok (.aload_n 1, 1) := by decide +kernel
theorem dX6_read_40 : decode cX6_read 40 = .ok (.iload_n 2, 1) := by decide +kernel
theorem dX6_read_41 : decode cX6_read 41 = .ok (.invokevirtual 41, 3) := by decide +kernel
theorem dX6_read_44 : decode cX6_read 44 = .ok (.invokevirtual 45, 3) := by decide +kernel
theorem dX6_read_47 : decode cX6_read 47 = .ok (.iload_n 2, 1) := by decide +kernel
theorem dX6_read_48 : decode cX6_read 48 = .ok (.invokevirtual 48, 3) := by decide +kernel
theorem dX6_read_51 : decode cX6_read 51 = .ok (.iinc 2 1, 3) := by decide +kernel
theorem dX6_read_54 : decode cX6_read 54 = .ok (.goto (-32), 3) := by decide +kernel
theorem dX6_read_57 : decode cX6_read 57 = .ok (.aload_n 0, 1) := by decide +kernel
theorem dX6_read_58 : decode cX6_read 58 = .ok (.getfield 22, 3) := by decide +kernel
theorem dX6_read_61 : decode cX6_read 61 = .ok (.ifCond .ne 28, 3) := by decide +kernel
theorem dX6_read_64 : decode cX6_read 64 = .ok (.aload_n 0, 1) := by decide +kernel
theorem dX6_read_65 : decode cX6_read 65 = .ok (.getfield 32, 3) := by decide +kernel
theorem dX6_read_68 : decode cX6_read 68 = .ok (.iconst 1, 1) := by decide +kernel
theorem dX6_read_69 : decode cX6_read 69 = .ok (.if_icmp .eq 11, 3) := by decide +kernel
theorem dX6_read_72 : decode cX6_read 72 = .ok (.aload_n 0, 1) := by decide +kernel
theorem dX6_read_73 : decode cX6_read 73 = .ok (.getfield 32, 3) := by decide +kernel
theorem dX6_read_76 : decode cX6_read 76 = .ok (.iconst 4, 1) := by decide +kernel
theorem dX6_read_77 : decode cX6_read 77 = .ok (.if_icmp .ne 12, 3) := by decide +kernel
theorem dX6_read_80 : decode cX6_read 80 = .ok (.aload_n 0, 1) := by decide +kernel
theorem dX6_read_81 : decode cX6_read 81 = .ok (.iconst 1, 1) := by decide +kernel
theorem dX6_read_82 : decode cX6_read 82 = .ok (.aload_n 1, 1) := by decide +kernel
theorem dX6_read_83 : decode cX6_read 83 = .ok (.invokevirtual 35, 3) := by decide +kernel
theorem dX6_read_86 : decode cX6_read 86 = .ok (.invokevirtual 48, 3) := by decide +kernel
theorem dX6_read_89 : decode cX6_read 89 = .ok (.return_, 1) := by decide +kernel
theorem dX6_note_0 : decode cX6_note 0 = .ok (.iload_n 1, 1) := by decide +kernel
theorem dX6_note_1 : decode cX6_note 1 = .ok (.ifCond .eq 13, 3) := by decide +kernel
theorem dX6_note_4 : decode cX6_note 4 = .ok (.aload_n 0, 1) := by decide +kernel
theorem dX6_note_5 : decode cX6_note 5 = .ok (.iload_n 1, 1) := by decide +kernel
theorem dX6_note_6 : decode cX6_note 6 = .ok (.putfield 22, 3) := by decide +kernel
theorem dX6_note_9 : decode cX6_note 9 = .ok (.aload_n 0, 1) := by decide +kernel
theorem dX6_note_10 : decode cX6_note 10 = .ok (.iload_n 2, 1) := by decide +kernel
theorem dX6_note_11 : decode cX6_note 11 = .ok (.putfield 26, 3) := by decide +kernel
theorem dX6_note_14 : decode cX6_note 14 = .ok (.return_, 1) := by decide +kernel
theorem dX6_take_0 : decode cX6_take 0 = .ok (.aload_n 0, 1) := by decide +kernel
theorem dX6_take_1 : decode cX6_take 1 = .ok (.getfield 32, 3) := by decide +kernel
theorem dX6_take_4 : decode cX6_take 4 = .ok (.tableswitch 66 0 4 #[36, 42, 48, 54, 60], 36) := by decide +kernel
theorem dX6_take_40 : decode cX6_take 40 = .ok (.aload_n 0, 1) := by decide +kernel
theorem dX6_take_41 : decode cX6_take 41 = .ok (.iload_n 1, 1) := by decide +kernel
theorem dX6_take_42 : decode cX6_take 42 = .ok (.invokevirtual 52, 3) := by decide +kernel
theorem dX6_take_45 : decode cX6_take 45 = .ok (.ireturn, 1) := by decide +kernel
theorem dX6_take_46 : decode cX6_take 46 = .ok (.aload_n 0, 1) := by decide +kernel
theorem dX6_take_47 : decode cX6_take 47 = .ok (.iload_n 1, 1) := by decide +kernel
theorem dX6_take_48 : decode cX6_take 48 = .ok (.invokevirtual 55, 3) := by decide +kernel
theorem dX6_take_51 : decode cX6_take 51 = .ok (.ireturn, 1) := by decide +kernel
theorem dX6_take_52 : decode cX6_take 52 = .ok (.aload_n 0, 1) := by decide +kernel
theorem dX6_take_53 : decode cX6_take 53 = .ok (.iload_n 1, 1) := by decide +kernel
theorem dX6_take_54 : decode cX6_take 54 = .ok (.invokevirtual 58, 3) := by decide +kernel
theorem dX6_take_57 : decode cX6_take 57 = .ok (.ireturn, 1) := by decide +kernel
theorem dX6_take_58 : decode cX6_take 58 = .ok (.aload_n 0, 1) := by decide +kernel
theorem dX6_take_59 : decode cX6_take 59 = .ok (.iload_n 1, 1) := by decide +kernel
theorem dX6_take_60 : decode cX6_take 60 = .ok (.invokevirtual 61, 3) := by decide +kernel
theorem dX6_take_63 : decode cX6_take 63 = .ok (.ireturn, 1) := by decide +kernel
theorem dX6_take_64 : decode cX6_take 64 = .ok (.aload_n 0, 1) := by decide +kernel
theorem dX6_take_65 : decode cX6_take 65 = .ok (.iload_n 1, 1) := by decide +kernel
theorem dX6_take_66 : decode cX6_take 66 = .ok (.invokevirtual 64, 3) := by decide +kernel
theorem dX6_take_69 : decode cX6_take 69 = .ok (.ireturn, 1) := by decide +kernel
theorem dX6_take_70 : decode cX6_take 70 = .ok (.aload_n 0, 1) := by decide +kernel
theorem dX6_take_71 : decode cX6_take 71 = .ok (.iload_n 1, 1) := by decide +kernel
theorem dX6_take_72 : decode cX6_take 72 = .ok (.invokevirtual 67, 3) := by decide +kernel
theorem dX6_take_75 : decode cX6_take 75 = .ok (.ireturn, 1) := by decide +kernel
theorem dX6_takeBetweenTerms_0 : decode cX6_takeBetweenTerms 0 = .ok (.iload_n 1, 1) := by decide +kernel
theorem dX6_takeBetweenTerms_1 : decode cX6_takeBetweenTerms 1 = .ok (.bipush 43, 2) := by decide +kernel
theorem dX6_takeBetweenTerms_3 : decode cX6_takeBetweenTerms 3 = .ok (.if_icmp .eq 9, 3) := by decide +kernel
theorem dX6_takeBetweenTerms_6 : decode cX6_takeBetweenTerms 6 = .ok (.iload_n 1, 1) := by decide +kernel
theorem dX6_takeBetweenTerms_7 : decode cX6_takeBetweenTerms 7 = .ok (.bipush 45, 2) := by decide +kernel
theorem dX6_takeBetweenTerms_9 : decode cX6_takeBetweenTerms 9 = .ok (.if_icmp .ne 7, 3) := by decide +kernel
theorem dX6_takeBetweenTerms_12 : decode cX6_takeBetweenTerms 12 = .ok (.iconst 1, 1) := by decide +kernel
theorem dX6_takeBetweenTerms_13 : decode cX6_takeBetweenTerms 13 = .ok (.goto 4, 3) := by decide +kernel
theorem dX6_takeBetweenTerms_16 : decode cX6_takeBetweenTerms 16 = .ok (.iconst 0, 1) := by decide +kernel
theorem dX6_takeBetweenTerms_17 : decode cX6_takeBetweenTerms 17 = .ok (.istore_n 2, 1) := by decide +kernel
theorem dX6_takeBetweenTerms_18 : decode cX6_takeBetweenTerms 18 = .ok (.iload_n 2, 1) := by decide +kernel
theorem dX6_takeBetweenTerms_19 : decode cX6_takeBetweenTerms 19 = .ok (.ifCond .ne 16, 3) := by decide +kernel
theorem dX6_takeBetweenTerms_22 : decode cX6_takeBetweenTerms 22 = .ok (.iload_n 1, 1) := by decide +kernel
theorem dX6_takeBetweenTerms_23 : decode cX6_takeBetweenTerms 23 = .ok (.invokestatic 70, 3) := by decide +kernel
theorem dX6_takeBetweenTerms_26 : decode cX6_takeBetweenTerms 26 = .ok (.ifCond .ne 9, 3) := by decide +kernel
theorem dX6_takeBetweenTerms_29 : decode cX6_takeBetweenTerms 29 = .ok (.aload_n 0, 1) := by decide +kernel
theorem dX6_takeBetweenTerms_30 : decode cX6_takeBetweenTerms 30 = .ok (.iload_n 1, 1) := by decide +kernel
theorem dX6_takeBetweenTerms_31 : decode cX6_takeBetweenTerms 31 = .ok (.invokevirtual 67, 3) := by decide +kernel
theorem dX6_takeBetweenTerms_34 : decode cX6_takeBetweenTerms 34 = .ok (.ireturn, 1) := by decide +kernel
theorem dX6_takeBetweenTerms_35 : decode cX6_takeBetweenTerms 35 = .ok (.aload_n 0, 1) := by decide +kernel
theorem dX6_takeBetweenTerms_36 : decode cX6_takeBetweenTerms 36 = .ok (.getfield 29, 3) := by decide +kernel
theorem dX6_takeBetweenTerms_39 : decode cX6_takeBetweenTerms 39 = .ok (.aload_n 0, 1) := by decide +kernel
theorem dX6_takeBetweenTerms_40 : decode cX6_takeBetweenTerms 40 = .ok (.getfield 11, 3) := by decide +kernel
theorem dX6_takeBetweenTerms_43 : decode cX6_takeBetweenTerms 43 = .ok (.arraylength, 1) := by decide +kernel
theorem dX6_takeBetweenTerms_44 : decode cX6_takeBetweenTerms 44 = .ok (.if_icmp .lt 5, 3) := by decide +kernel
theorem dX6_takeBetweenTerms_47 : decode cX6_takeBetweenTerms 47 = .ok (.iconst 3, 1) := by decide +kernel
theorem dX6_takeBetweenTerms_48 : decode cX6_takeBetweenTerms 48 = .ok (.ireturn, 1) := by decide +kernel
theorem dX6_takeBetweenTerms_49 : decode cX6_takeBetweenTerms 49 = .ok (.aload_n 0, 1) := by decide +kernel
theorem dX6_takeBetweenTerms_50 : decode cX6_takeBetweenTerms 50 = .ok (.aload_n 0, 1) := by decide +kernel
theorem dX6_takeBetweenTerms_51 : decode cX6_takeBetweenTerms 51 = .ok (.getfield 11, 3) := by decide +kernel
theorem dX6_takeBetweenTerms_54 : decode cX6_takeBetweenTerms 54 = .ok (.aload_n 0, 1) := by decide +kernel
theorem dX6_takeBetweenTerms_55 : decode cX6_takeBetweenTerms 55 = .ok (.getfield 29, 3) := by decide +kernel
theorem dX6_takeBetweenTerms_58 : decode cX6_takeBetweenTerms 58 = .ok (.aaload, 1) := by decide +kernel
theorem dX6_takeBetweenTerms_59 : decode cX6_takeBetweenTerms 59 = .ok (.putfield 18, 3) := by decide +kernel
theorem dX6_takeBetweenTerms_62 : decode cX6_takeBetweenTerms 62 = .ok (.aload_n 0, 1) := by decide +kernel
theorem dX6_takeBetweenTerms_63 : decode cX6_takeBetweenTerms 63 = .ok (.dup, 1) := by decide +kernel
theorem dX6_takeBetweenTerms_64 : decode cX6_takeBetweenTerms 64 = .ok (.getfield 29, 3) := by decide +kernel
theorem dX6_takeBetweenTerms_67 : decode cX6_takeBetweenTerms 67 = .ok (.iconst 1, 1) := by decide +kernel
theorem dX6_takeBetweenTerms_68 : decode cX6_takeBetweenTerms 68 = .ok (.iadd, 1) := by decide +kernel
theorem dX6_takeBetweenTerms_69 : decode cX6_takeBetweenTerms 69 = .ok (.putfield 29, 3) := by decide +kernel
theorem dX6_takeBetweenTerms_72 : decode cX6_takeBetweenTerms 72 = .ok (.aload_n 0, 1) := by decide +kernel
theorem dX6_takeBetweenTerms_73 : decode cX6_takeBetweenTerms 73 = .ok (.getfield 18, 3) := by decide +kernel
theorem dX6_takeBetweenTerms_76 : decode cX6_takeBetweenTerms 76 = .ok (.invokevirtual 76, 3) := by decide +kernel
theorem dX6_takeBetweenTerms_79 : decode cX6_takeBetweenTerms 79 = .ok (.iload_n 2, 1) := by decide +kernel
theorem dX6_takeBetweenTerms_80 : decode cX6_takeBetweenTerms 80 = .ok (.ifCond .ne 9, 3) := by decide +kernel
theorem dX6_takeBetweenTerms_83 : decode cX6_takeBetweenTerms 83 = .ok (.aload_n 0, 1) := by decide +kernel
theorem dX6_takeBetweenTerms_84 : decode cX6_takeBetweenTerms 84 = .ok (.iload_n 1, 1) := by decide +kernel
theorem dX6_takeBetweenTerms_85 : decode cX6_takeBetweenTerms 85 = .ok (.invokevirtual 55, 3) := by decide +kernel
theorem dX6_takeBetweenTerms_88 : decode cX6_takeBetweenTerms 88 = .ok (.ireturn, 1) := by decide +kernel
theorem dX6_takeBetweenTerms_89 : decode cX6_takeBetweenTerms 89 = .ok (.aload_n 0, 1) := by decide +kernel
theorem dX6_takeBetweenTerms_90 : decode cX6_takeBetweenTerms 90 = .ok (.getfield 18, 3) := by decide +kernel
theorem dX6_takeBetweenTerms_93 : decode cX6_takeBetweenTerms 93 = .ok (.iload_n 1, 1) := by decide +kernel
theorem dX6_takeBetweenTerms_94 : decode cX6_takeBetweenTerms 94 = .ok (.bipush 43, 2) := by decide +kernel
theorem dX6_takeBetweenTerms_96 : decode cX6_takeBetweenTerms 96 = .ok (.if_icmp .ne 7, 3) := by decide +kernel
theorem dX6_takeBetweenTerms_99 : decode cX6_takeBetweenTerms 99 = .ok (.iconst 1, 1) := by decide +kernel
theorem dX6_takeBetweenTerms_100 : decode cX6_takeBetweenTerms 100 = .ok (.goto 4, 3) := by decide +kernel
theorem dX6_takeBetweenTerms_103 : decode cX6_takeBetweenTerms 103 = .ok (.iconst 0, 1) := by decide +kernel
theorem dX6_takeBetweenTerms_104 : decode cX6_takeBetweenTerms 104 = .ok (.putfield 79, 3) := by decide +kernel
theorem dX6_takeBetweenTerms_107 : decode cX6_takeBetweenTerms 107 = .ok (.aload_n 0, 1) := by decide +kernel
theorem dX6_takeBetweenTerms_108 : decode cX6_takeBetweenTerms 108 = .ok (.getfield 18, 3) := by decide +kernel
theorem dX6_takeBetweenTerms_111 : decode cX6_takeBetweenTerms 111 = .ok (.iload_n 1, 1) := by decide +kernel
theorem dX6_takeBetweenTerms_112 : decode cX6_takeBetweenTerms 112 = .ok (.bipush 45, 2) := by decide +kernel
theorem dX6_takeBetweenTerms_114 : decode cX6_takeBetweenTerms 114 = .ok (.if_icmp .ne 7, 3) := by decide +kernel
theorem dX6_takeBetweenTerms_117 : decode cX6_takeBetweenTerms 117 = .ok (.iconst 1, 1) := by decide +kernel
theorem dX6_takeBetweenTerms_118 : decode cX6_takeBetweenTerms 118 = .ok (.goto 4, 3) := by decide +kernel
theorem dX6_takeBetweenTerms_121 : decode cX6_takeBetweenTerms 121 = .ok (.iconst 0, 1) := by decide +kernel
theorem dX6_takeBetweenTerms_122 : decode cX6_takeBetweenTerms 122 = .ok (.putfield 83, 3) := by decide +kernel
theorem dX6_takeBetweenTerms_125 : decode cX6_takeBetweenTerms 125 = .ok (.aload_n 0, 1) := by decide +kernel
theorem dX6_takeBetweenTerms_126 : decode cX6_takeBetweenTerms 126 = .ok (.iconst 1, 1) := by decide +kernel
theorem dX6_takeBetweenTerms_127 : decode cX6_takeBetweenTerms 127 = .ok (.putfield 32, 3) := by decide +kernel
theorem dX6_takeBetweenTerms_130 : decode cX6_takeBetweenTerms 130 = .ok (.iconst 0, 1) := by decide +kernel
theorem dX6_takeBetweenTerms_131 : decode cX6_takeBetweenTerms 131 = .ok (.ireturn, 1) := by decide +kernel
theorem dX6_takeLetter_0 : decode cX6_takeLetter 0 = .ok (.iload_n 1, 1) := by decide +kernel
theorem dX6_takeLetter_1 : decode cX6_takeLetter 1 = .ok (.invokestatic 70, 3) := by decide +kernel
theorem dX6_takeLetter_4 : decode cX6_takeLetter 4 = .ok (.ifCond .ne 5, 3) := by decide +kernel
theorem dX6_takeLetter_7 : decode cX6_takeLetter 7 = .ok (.iconst 1, 1) := by decide +kernel
theorem dX6_takeLetter_8 : decode cX6_takeLetter 8 = .ok (.ireturn, 1) := by decide +kernel
theorem dX6_takeLetter_9 : decode cX6_takeLetter 9 = .ok (.aload_n 0, 1) := by decide +kernel
theorem dX6_takeLetter_10 : decode cX6_takeLetter 10 = .ok (.getfield 18, 3) := by decide +kernel
theorem dX6_takeLetter_13 : decode cX6_takeLetter 13 = .ok (.iload_n 1, 1) := by decide +kernel
theorem dX6_takeLetter_14 : decode cX6_takeLetter 14 = .ok (.invokestatic 86, 3) := by decide +kernel
theorem dX6_takeLetter_17 : decode cX6_takeLetter 17 = .ok (.invokevirtual 89, 3) := by decide +kernel
theorem dX6_takeLetter_20 : decode cX6_takeLetter 20 = .ok (.ifCond .ne 5, 3) := by decide +kernel
theorem dX6_takeLetter_23 : decode cX6_takeLetter 23 = .ok (.iconst 2, 1) := by decide +kernel
theorem dX6_takeLetter_24 : decode cX6_takeLetter 24 = .ok (.ireturn, 1) := by decide +kernel
theorem dX6_takeLetter_25 : decode cX6_takeLetter 25 = .ok (.aload_n 0, 1) := by decide +kernel
theorem dX6_takeLetter_26 : decode cX6_takeLetter 26 = .ok (.iconst 2, 1) := by decide +kernel
theorem dX6_takeLetter_27 : decode cX6_takeLetter 27 = .ok (.putfield 32, 3) := by decide +kernel
theorem dX6_takeLetter_30 : decode cX6_takeLetter 30 = .ok (.iconst 0, 1) := by decide +kernel
theorem dX6_takeLetter_31 : decode cX6_takeLetter 31 = .ok (.ireturn, 1) := by decide +kernel
theorem dX6_takeBehindLetter_0 : decode cX6_takeBehindLetter 0 = .ok (.iload_n 1, 1) := by decide +kernel
theorem dX6_takeBehindLetter_1 : decode cX6_takeBehindLetter 1 = .ok (.invokestatic 70, 3) := by decide +kernel
theorem dX6_takeBehindLetter_4 : decode cX6_takeBehindLetter 4 = .ok (.ifCond .eq 9, 3) := by decide +kernel
theorem dX6_takeBehindLetter_7 : decode cX6_takeBehindLetter 7 = .ok (.aload_n 0, 1) := by decide +kernel
theorem dX6_takeBehindLetter_8 : decode cX6_takeBehindLetter 8 = .ok (.iload_n 1, 1) := by decide +kernel
theorem dX6_takeBehindLetter_9 : decode cX6_takeBehindLetter 9 = .ok (.invokevirtual 55, 3) := by decide +kernel
theorem dX6_takeBehindLetter_12 : decode cX6_takeBehindLetter 12 = .ok (.ireturn, 1) := by decide +kernel
theorem dX6_takeBehindLetter_13 : decode cX6_takeBehindLetter 13 = .ok (.iload_n 1, 1) := by decide +kernel
theorem dX6_takeBehindLetter_14 : decode cX6_takeBehindLetter 14 = .ok (.bipush 42, 2) := by decide +kernel
theorem dX6_takeBehindLetter_16 : decode cX6_takeBehindLetter 16 = .ok (.if_icmp .ne 18, 3) := by decide +kernel
theorem dX6_takeBehindLetter_19 : decode cX6_takeBehindLetter 19 = .ok (.aload_n 0, 1) := by decide +kernel
theorem dX6_takeBehindLetter_20 : decode cX6_takeBehindLetter 20 = .ok (.getfield 18, 3) := by decide +kernel
theorem dX6_takeBehindLetter_23 : decode cX6_takeBehindLetter 23 = .ok (.iconst 1, 1) := by decide +kernel
theorem dX6_takeBehindLetter_24 : decode cX6_takeBehindLetter 24 = .ok (.putfield 92, 3) := by decide +kernel
theorem dX6_takeBehindLetter_27 : decode cX6_takeBehindLetter 27 = .ok (.aload_n 0, 1) := by decide +kernel
theorem dX6_takeBehindLetter_28 : decode cX6_takeBehindLetter 28 = .ok (.iconst 3, 1) := by decide +kernel
theorem dX6_takeBehindLetter_29 : decode cX6_takeBehindLetter 29 = .ok (.putfield 32, 3) := by decide +kernel
theorem dX6_takeBehindLetter_32 : decode cX6_takeBehindLetter 32 = .ok (.iconst 0, 1) := by decide +kernel
theorem dX6_takeBehindLetter_33 : decode cX6_takeBehindLetter 33 = .ok (.ireturn, 1) := by decide +kernel
theorem dX6_takeBehindLetter_34 : decode cX6_takeBehindLetter 34 = .ok (.aload_n 0, 1) := by decide +kernel
theorem dX6_takeBehindLetter_35 : decode cX6_takeBehindLetter 35 = .ok (.iload_n 1, 1) := by decide +kernel
theorem dX6_takeBehindLetter_36 : decode cX6_takeBehindLetter 36 = .ok (.invokevirtual 61, 3) := by decide +kernel
theorem dX6_takeBehindLetter_39 : decode cX6_takeBehindLetter 39 = .ok (.ireturn, 1) := by decide +kernel
theorem dX6_takeBehindStar_0 : decode cX6_takeBehindStar 0 = .ok (.iload_n 1, 1) := by decide +kernel
theorem dX6_takeBehindStar_1 : decode cX6_takeBehindStar 1 = .ok (.bipush 94, 2) := by decide +kernel
theorem dX6_takeBehindStar_3 : decode cX6_takeBehindStar 3 = .ok (.if_icmp .ne 10, 3) := by decide +kernel
theorem dX6_takeBehindStar_6 : decode cX6_takeBehindStar 6 = .ok (.aload_n 0, 1) := by decide +kernel
theorem dX6_takeBehindStar_7 : decode cX6_takeBehindStar 7 = .ok (.iconst 4, 1) := by decide +kernel
theorem dX6_takeBehindStar_8 : decode cX6_takeBehindStar 8 = .ok (.putfield 32, 3) := by decide +kernel
theorem dX6_takeBehindStar_11 : decode cX6_takeBehindStar 11 = .ok (.iconst 0, 1) := by decide +kernel
theorem dX6_takeBehindStar_12 : decode cX6_takeBehindStar 12 = .ok (.ireturn, 1) := by decide +kernel
theorem dX6_takeBehindStar_13 : decode cX6_takeBehindStar 13 = .ok (.aload_n 0, 1) := by decide +kernel
theorem dX6_takeBehindStar_14 : decode cX6_takeBehindStar 14 = .ok (.iload_n 1, 1) := by decide +kernel
theorem dX6_takeBehindStar_15 : decode cX6_takeBehindStar 15 = .ok (.invokevirtual 67, 3) := by decide +kernel
theorem dX6_takeBehindStar_18 : decode cX6_takeBehindStar 18 = .ok (.ireturn, 1) := by decide +kernel
theorem dX6_takeFigure_0 : decode cX6_takeFigure 0 = .ok (.iload_n 1, 1) := by decide +kernel
theorem dX6_takeFigure_1 : decode cX6_takeFigure 1 = .ok (.bipush 49, 2) := by decide +kernel
theorem dX6_takeFigure_3 : decode cX6_takeFigure 3 = .ok (.if_icmp .lt 9, 3) := by decide +kernel
theorem dX6_takeFigure_6 : decode cX6_takeFigure 6 = .ok (.iload_n 1, 1) := by decide +kernel
theorem dX6_takeFigure_7 : decode cX6_takeFigure 7 = .ok (.bipush 57, 2) := by decide +kernel
theorem dX6_takeFigure_9 : decode cX6_takeFigure 9 = .ok (.if_icmp .le 5, 3) := by decide +kernel
theorem dX6_takeFigure_12 : decode cX6_takeFigure 12 = .ok (.iconst 1, 1) := by decide +kernel
theorem dX6_takeFigure_13 : decode cX6_takeFigure 13 = .ok (.ireturn, 1) := by decide +kernel
theorem dX6_takeFigure_14 : decode cX6_takeFigure 14 = .ok (.aload_n 0, 1) := by decide +kernel
theorem dX6_takeFigure_15 : decode cX6_takeFigure 15 = .ok (.getfield 18, 3) := by decide +kernel
theorem dX6_takeFigure_18 : decode cX6_takeFigure 18 = .ok (.iload_n 1, 1) := by decide +kernel
theorem dX6_takeFigure_19 : decode cX6_takeFigure 19 = .ok (.bipush 48, 2) := by decide +kernel
theorem dX6_takeFigure_21 : decode cX6_takeFigure 21 = .ok (.isub, 1) := by decide +kernel
theorem dX6_takeFigure_22 : decode cX6_takeFigure 22 = .ok (.putfield 95, 3) := by decide +kernel
theorem dX6_takeFigure_25 : decode cX6_takeFigure 25 = .ok (.aload_n 0, 1) := by decide +kernel
theorem dX6_takeFigure_26 : decode cX6_takeFigure 26 = .ok (.iconst 5, 1) := by decide +kernel
theorem dX6_takeFigure_27 : decode cX6_takeFigure 27 = .ok (.putfield 32, 3) := by decide +kernel
theorem dX6_takeFigure_30 : decode cX6_takeFigure 30 = .ok (.iconst 0, 1) := by decide +kernel
theorem dX6_takeFigure_31 : decode cX6_takeFigure 31 = .ok (.ireturn, 1) := by decide +kernel
theorem dX6_takeBlank_0 : decode cX6_takeBlank 0 = .ok (.iload_n 1, 1) := by decide +kernel
theorem dX6_takeBlank_1 : decode cX6_takeBlank 1 = .ok (.bipush 32, 2) := by decide +kernel
theorem dX6_takeBlank_3 : decode cX6_takeBlank 3 = .ok (.if_icmp .le 5, 3) := by decide +kernel
theorem dX6_takeBlank_6 : decode cX6_takeBlank 6 = .ok (.iconst 1, 1) := by decide +kernel
theorem dX6_takeBlank_7 : decode cX6_takeBlank 7 = .ok (.ireturn, 1) := by decide +kernel
theorem dX6_takeBlank_8 : decode cX6_takeBlank 8 = .ok (.aload_n 0, 1) := by decide +kernel
theorem dX6_takeBlank_9 : decode cX6_takeBlank 9 = .ok (.iconst 0, 1) := by decide +kernel
theorem dX6_takeBlank_10 : decode cX6_takeBlank 10 = .ok (.putfield 32, 3) := by decide +kernel
theorem dX6_takeBlank_13 : decode cX6_takeBlank 13 = .ok (.iconst 0, 1) := by decide +kernel
theorem dX6_takeBlank_14 : decode cX6_takeBlank 14 = .ok (.ireturn, 1) := by decide +kernel
theorem dX7_init_0 : decode cX7_init 0 = .ok (.aload_n 0, 1) := by decide +kernel
theorem dX7_init_1 : decode cX7_init 1 = .ok (.invokespecial 3, 3) := by decide +kernel
theorem dX7_init_4 : decode cX7_init 4 = .ok (.return_, 1) := by decide +kernel
theorem dX7_suiting_0 : decode cX7_suiting 0 = .ok (.aload_n 0, 1) := by decide +kernel
theorem dX7_suiting_1 : decode cX7_suiting 1 = .ok (.iconst 0, 1) := by decide +kernel
theorem dX7_suiting_2 : decode cX7_suiting 2 = .ok (.putfield 9, 3) := by decide +kernel
theorem dX7_suiting_5 : decode cX7_suiting 5 = .ok (.iconst 0, 1) := by decide +kernel
theorem dX7_suiting_6 : decode cX7_suiting 6 = .ok (.istore 4, 2) := by decide +kernel
theorem dX7_suiting_8 : decode cX7_suiting 8 = .ok (.iload 4, 2) := by decide +kernel
theorem dX7_suiting_10 : decode cX7_suiting 10 = .ok (.aload_n 1, 1) := by decide +kernel
theorem dX7_suiting_11 : decode cX7_suiting 11 = .ok (.getfield 15, 3) := by decide +kernel
theorem dX7_suiting_14 : decode cX7_suiting 14 = .ok (.if_icmp .ge 33, 3) := by decide +kernel
theorem dX7_suiting_17 : decode cX7_suiting 17 = .ok (.aload_n 1, 1) := by decide +kernel
theorem dX7_suiting_18 : decode cX7_suiting 18 = .ok (.iload 4, 2) := by decide +kernel
theorem dX7_suiting_20 : decode cX7_suiting 20 = .ok (.invokevirtual 20, 3) := by decide +kernel
theorem dX7_suiting_23 : decode cX7_suiting 23 = .ok (.astore 5, 2) := by decide +kernel
theorem dX7_suiting_25 : decode cX7_suiting 25 = .ok (.aload 5, 2) := by decide +kernel
theorem dX7_suiting_27 : decode cX7_suiting 27 = .ok (.ifnull 14, 3) := by decide +kernel
theorem dX7_suiting_30 : decode cX7_suiting 30 = .ok (.aload_n 0, 1) := by decide +kernel
theorem dX7_suiting_31 : decode cX7_suiting 31 = .ok (.aload 5, 2) := by decide +kernel
theorem dX7_suiting_33 : decode cX7_suiting 33 = .ok (.iconst 1, 1) := by decide +kernel
theorem dX7_suiting_34 : decode cX7_suiting 34 = .ok (.iload 4, 2) := by decide +kernel
theorem dX7_suiting_36 : decode cX7_suiting 36 = .ok (.ishl, 1) := by decide +kernel
theorem dX7_suiting_37 : decode cX7_suiting 37 = .ok (.aload_n 2, 1) := by decide +kernel
theorem dX7_suiting_38 : decode cX7_suiting 38 = .ok (.invokevirtual 24, 3) := by decide +kernel
theorem dX7_suiting_41 : decode cX7_suiting 41 = .ok (.iinc 4 1, 3) := by decide +kernel
theorem dX7_suiting_44 : decode cX7_suiting 44 = .ok (.goto (-36), 3) := by decide +kernel
theorem dX7_suiting_47 : decode cX7_suiting 47 = .ok (.aload_n 0, 1) := by decide +kernel
theorem dX7_suiting_48 : decode cX7_suiting 48 = .ok (.aload_n 3, 1) := by decide +kernel
theorem dX7_suiting_49 : decode cX7_suiting 49 = .ok (.invokevirtual 28, 3) := by decide +kernel
theorem dX7_suiting_52 : decode cX7_suiting 52 = .ok (.return_, 1) := by decide +kernel
theorem dX7_resembling_0 : decode cX7_resembling 0 = .ok (.aload_n 0, 1) := by decide +kernel
theorem dX7_resembling_1 : decode cX7_resembling 1 = .ok (.iconst 0, 1) := by decide +kernel
theorem dX7_resembling_2 : decode cX7_resembling 2 = .ok (.putfield 9, 3) := by decide +kernel
theorem dX7_resembling_5 : decode cX7_resembling 5 = .ok (.aload_n 0, 1) := by decide +kernel
theorem dX7_resembling_6 : decode cX7_resembling 6 = .ok (.aload_n 1, 1) := by decide +kernel
theorem dX7_resembling_7 : decode cX7_resembling 7 = .ok (.invokevirtual 32, 3) := by decide +kernel
theorem dX7_resembling_10 : decode cX7_resembling 10 = .ok (.aload_n 1, 1) := by decide +kernel
theorem dX7_resembling_11 : decode cX7_resembling 11 = .ok (.iconst 1, 1) := by decide +kernel
theorem dX7_resembling_12 : decode cX7_resembling 12 = .ok (.putfield 36, 3) := by decide +kernel
theorem dX7_resembling_15 : decode cX7_resembling 15 = .ok (.aload_n 1, 1) := by decide +kernel
theorem dX7_resembling_16 : decode cX7_resembling 16 = .ok (.getfield 42, 3) := by decide +kernel
theorem dX7_resembling_19 : decode cX7_resembling 19 = .ok (.astore 4, 2) := by decide +kernel
theorem dX7_resembling_21 : decode cX7_resembling 21 = .ok (.aload 4, 2) := by decide +kernel
theorem dX7_resembling_23 : decode cX7_resembling 23 = .ok (.ifnull 49, 3) := by decide +kernel
theorem dX7_resembling_26 : decode cX7_resembling 26 = .ok (.aload 4, 2) := by decide +kernel
theorem dX7_resembling_28 : decode cX7_resembling 28 = .ok (.getfield 46, 3) := by decide +kernel
theorem dX7_resembling_31 : decode cX7_resembling 31 = .ok (.astore 5, 2) := by decide +kernel
theorem dX7_resembling_33 : decode cX7_resembling 33 = .ok (.aload 5, 2) := by decide +kernel
theorem dX7_resembling_35 : decode cX7_resembling 35 = .ok (.ifnull 27, 3) := by decide +kernel
theorem dX7_resembling_38 : decode cX7_resembling 38 = .ok (.aload_n 0, 1) := by decide +kernel
theorem dX7_resembling_39 : decode cX7_resembling 39 = .ok (.aload 5, 2) := by decide +kernel
theorem dX7_resembling_41 : decode cX7_resembling 41 = .ok (.aload 4, 2) := by decide +kernel
theorem dX7_resembling_43 : decode cX7_resembling 43 = .ok (.getfield 52, 3) := by decide +kernel
theorem dX7_resembling_46 : decode cX7_resembling 46 = .ok (.bipush 9, 2) := by decide +kernel
theorem dX7_resembling_48 : decode cX7_resembling 48 = .ok (.invokestatic 55, 3) := by decide +kernel
theorem dX7_resembling_51 : decode cX7_resembling 51 = .ok (.aload_n 2, 1) := by decide +kernel
theorem dX7_resembling_52 : decode cX7_resembling 52 = .ok (.aload 5, 2) := by decide +kernel
theorem dX7_resembling_54 : decode cX7_resembling 54 = .ok (.invokevirtual 61, 3) := by decide +kernel
theorem dX7_resembling_57 : decode cX7_resembling 57 = .ok (.imul, 1) := by decide +kernel
theorem dX7_resembling_58 : decode cX7_resembling 58 = .ok (.iconst 0, 1) := by decide +kernel
theorem dX7_resembling_59 : decode cX7_resembling 59 = .ok (.invokevirtual 67, 3) := by decide +kernel
theorem dX7_resembling_62 : decode cX7_resembling 62 = .ok (.aload 4, 2) := by decide +kernel
theorem dX7_resembling_64 : decode cX7_resembling 64 = .ok (.getfield 71, 3) := by decide +kernel
theorem dX7_resembling_67 : decode cX7_resembling 67 = .ok (.astore 4, 2) := by decide +kernel
theorem dX7_resembling_69 : decode cX7_resembling 69 = .ok (.goto (-48), 3) := by decide +kernel
theorem dX7_resembling_72 : decode cX7_resembling 72 = .ok (.aload_n 0, 1) := by decide +kernel
theorem dX7_resembling_73 : decode cX7_resembling 73 = .ok (.aload_n 3, 1) := by decide +kernel
theorem dX7_resembling_74 : decode cX7_resembling 74 = .ok (.invokevirtual 28, 3) := by decide +kernel
theorem dX7_resembling_77 : decode cX7_resembling 77 = .ok (.return_, 1) := by decide +kernel
theorem dX7_follow_0 : decode cX7_follow 0 = .ok (.aload_n 1, 1) := by decide +kernel
theorem dX7_follow_1 : decode cX7_follow 1 = .ok (.getfield 74, 3) := by decide +kernel
theorem dX7_follow_4 : decode cX7_follow 4 = .ok (.ifCond .eq 13, 3) := by decide +kernel
theorem dX7_follow_7 : decode cX7_follow 7 = .ok (.aload_n 0, 1) := by decide +kernel
theorem dX7_follow_8 : decode cX7_follow 8 = .ok (.dup, 1) := by decide +kernel
theorem dX7_follow_9 : decode cX7_follow 9 = .ok (.getfield 9, 3) := by decide +kernel
theorem dX7_follow_12 : decode cX7_follow 12 = .ok (.iload_n 2, 1) := by decide +kernel
theorem dX7_follow_13 : decode cX7_follow 13 = .ok (.ior, 1) := by decide +kernel
theorem dX7_follow_14 : decode cX7_follow 14 = .ok (.putfield 9, 3) := by decide +kernel
theorem dX7_follow_17 : decode cX7_follow 17 = .ok (.aload_n 3, 1) := by decide +kernel
theorem dX7_follow_18 : decode cX7_follow 18 = .ok (.getfield 79, 3) := by decide +kernel
theorem dX7_follow_21 : decode cX7_follow 21 = .ok (.astore 4, 2) := by decide +kernel
theorem dX7_follow_23 : decode cX7_follow 23 = .ok (.aload_n 1, 1) := by decide +kernel
theorem dX7_follow_24 : decode cX7_follow 24 = .ok (.invokevirtual 83, 3) := by decide +kernel
theorem dX7_follow_27 : decode cX7_follow 27 = .ok (.lstore 5, 2) := by decide +kernel
theorem dX7_follow_29 : decode cX7_follow 29 = .ok (.aload 4, 2) := by decide +kernel
theorem dX7_follow_31 : decode cX7_follow 31 = .ok (.aload_n 1, 1) := by decide +kernel
theorem dX7_follow_32 : decode cX7_follow 32 = .ok (.getfield 87, 3) := by decide +kernel
theorem dX7_follow_35 : decode cX7_follow 35 = .ok (.invokevirtual 91, 3) := by decide +kernel
theorem dX7_follow_38 : decode cX7_follow 38 = .ok (.istore 7, 2) := by decide +kernel
theorem dX7_follow_40 : decode cX7_follow 40 = .ok (.iload 7, 2) := by decide +kernel
theorem dX7_follow_42 : decode cX7_follow 42 = .ok (.aload 4, 2) := by decide +kernel
theorem dX7_follow_44 : decode cX7_follow 44 = .ok (.invokevirtual 97, 3) := by decide +kernel
theorem dX7_follow_47 : decode cX7_follow 47 = .ok (.if_icmp .ge 71, 3) := by decide +kernel
theorem dX7_follow_50 : decode cX7_follow 50 = .ok (.aload 4, 2) := by decide +kernel
theorem dX7_follow_52 : decode cX7_follow 52 = .ok (.iload 7, 2) := by decide +kernel
theorem dX7_follow_54 : decode cX7_follow 54 = .ok (.invokevirtual 101, 3) := by decide +kernel
theorem dX7_follow_57 : decode cX7_follow 57 = .ok (.astore 8, 2) := by decide +kernel
theorem dX7_follow_59 : decode cX7_follow 59 = .ok (.aload 8, 2) := by decide +kernel
theorem dX7_follow_61 : decode cX7_follow 61 = .ok (.ifnull 57, 3) := by decide +kernel
theorem dX7_follow_64 : decode cX7_follow 64 = .ok (.aload 8, 2) := by decide +kernel
theorem dX7_follow_66 : decode cX7_follow 66 = .ok (.getfield 105, 3) := by decide +kernel
theorem dX7_follow_69 : decode cX7_follow 69 = .ok (.lload 5, 2) := by decide +kernel
theorem dX7_follow_71 : decode cX7_follow 71 = .ok (.lcmp, 1) := by decide +kernel
theorem dX7_follow_72 : decode cX7_follow 72 = .ok (.ifCond .le 6, 3) := by decide +kernel
theorem dX7_follow_75 : decode cX7_follow 75 = .ok (.goto 43, 3) := by decide +kernel
theorem dX7_follow_78 : decode cX7_follow 78 = .ok (.aload_n 1, 1) := by decide +kernel
theorem dX7_follow_79 : decode cX7_follow 79 = .ok (.getfield 108, 3) := by decide +kernel
theorem dX7_follow_82 : decode cX7_follow 82 = .ok (.ifCond .eq 12, 3) := by decide +kernel
theorem dX7_follow_85 : decode cX7_follow 85 = .ok (.aload_n 0, 1) := by decide +kernel
theorem dX7_follow_86 : decode cX7_follow 86 = .ok (.aload 8, 2) := by decide +kernel
theorem dX7_follow_88 : decode cX7_follow 88 = .ok (.invokevirtual 111, 3) := by decide +kernel
theorem dX7_follow_91 : decode cX7_follow 91 = .ok (.goto 21, 3) := by decide +kernel
theorem dX7_follow_94 : decode cX7_follow 94 = .ok (.aload_n 0, 1) := by decide +kernel
theorem dX7_follow_95 : decode cX7_follow 95 = .ok (.aload 8, 2) := by decide +kernel
theorem dX7_follow_97 : decode cX7_follow 97 = .ok (.aload_n 1, 1) := by decide +kernel
theorem dX7_follow_98 : decode cX7_follow 98 = .ok (.getfield 115, 3) := by decide +kernel
theorem dX7_follow_101 : decode cX7_follow 101 = .ok (.aload_n 3, 1) := by decide +kernel
theorem dX7_follow_102 : decode cX7_follow 102 = .ok (.aload 8, 2) := by decide +kernel
theorem dX7_follow_104 : decode cX7_follow 104 = .ok (.invokevirtual 61, 3) := by decide +kernel
theorem dX7_follow_107 : decode cX7_follow 107 = .ok (.imul, 1) := by decide +kernel
theorem dX7_follow_108 : decode cX7_follow 108 = .ok (.iload_n 2, 1) := by decide +kernel
theorem dX7_follow_109 : decode cX7_follow 109 = .ok (.invokevirtual 67, 3) := by decide +kernel
theorem dX7_follow_112 : decode cX7_follow 112 = .ok (.iinc 7 1, 3) := by decide +kernel
theorem dX7_follow_115 : decode cX7_follow 115 = .ok (.goto (-75), 3) := by decide +kernel
theorem dX7_follow_118 : decode cX7_follow 118 = .ok (.return_, 1) := by decide +kernel
theorem dX7_reward_0 : decode cX7_reward 0 = .ok (.aload_n 1, 1) := by decide +kernel
theorem dX7_reward_1 : decode cX7_reward 1 = .ok (.getfield 118, 3) := by decide +kernel
theorem dX7_reward_4 : decode cX7_reward 4 = .ok (.astore 4, 2) := by decide +kernel
theorem dX7_reward_6 : decode cX7_reward 6 = .ok (.aload 4, 2) := by decide +kernel
theorem dX7_reward_8 : decode cX7_reward 8 = .ok (.ifnull 59, 3) := by decide +kernel
theorem dX7_reward_11 : decode cX7_reward 11 = .ok (.aload 4, 2) := by decide +kernel
theorem dX7_reward_13 : decode cX7_reward 13 = .ok (.getfield 119, 3) := by decide +kernel
theorem dX7_reward_16 : decode cX7_reward 16 = .ok (.astore 5, 2) := by decide +kernel
theorem dX7_reward_18 : decode cX7_reward 18 = .ok (.aload 5, 2) := by decide +kernel
theorem dX7_reward_20 : decode cX7_reward 20 = .ok (.ifnull 37, 3) := by decide +kernel
theorem dX7_reward_23 : decode cX7_reward 23 = .ok (.aload_n 0, 1) := by decide +kernel
theorem dX7_reward_24 : decode cX7_reward 24 = .ok (.aload 5, 2) := by decide +kernel
theorem dX7_reward_26 : decode cX7_reward 26 = .ok (.invokevirtual 32, 3) := by decide +kernel
theorem dX7_reward_29 : decode cX7_reward 29 = .ok (.aload 5, 2) := by decide +kernel
theorem dX7_reward_31 : decode cX7_reward 31 = .ok (.dup, 1) := by decide +kernel
theorem dX7_reward_32 : decode cX7_reward 32 = .ok (.getfield 123, 3) := by decide +kernel
theorem dX7_reward_35 : decode cX7_reward 35 = .ok (.iload_n 3, 1) := by decide +kernel
theorem dX7_reward_36 : decode cX7_reward 36 = .ok (.ior, 1) := by decide +kernel
theorem dX7_reward_37 : decode cX7_reward 37 = .ok (.putfield 123, 3) := by decide +kernel
theorem dX7_reward_40 : decode cX7_reward 40 = .ok (.aload 5, 2) := by decide +kernel
theorem dX7_reward_42 : decode cX7_reward 42 = .ok (.dup, 1) := by decide +kernel
theorem dX7_reward_43 : decode cX7_reward 43 = .ok (.getfield 126, 3) := by decide +kernel
theorem dX7_reward_46 : decode cX7_reward 46 = .ok (.iload_n 2, 1) := by decide +kernel
theorem dX7_reward_47 : decode cX7_reward 47 = .ok (.aload 4, 2) := by decide +kernel
theorem dX7_reward_49 : decode cX7_reward 49 = .ok (.invokevirtual 129, 3) := by decide +kernel
theorem dX7_reward_52 : decode cX7_reward 52 = .ok (.imul, 1) := by decide +kernel
theorem dX7_reward_53 : decode cX7_reward 53 = .ok (.iadd, 1) := by decide +kernel
theorem dX7_reward_54 : decode cX7_reward 54 = .ok (.putfield 126, 3) := by decide +kernel
theorem dX7_reward_57 : decode cX7_reward 57 = .ok (.aload 4, 2) := by decide +kernel
theorem dX7_reward_59 : decode cX7_reward 59 = .ok (.getfield 132, 3) := by decide +kernel
theorem dX7_reward_62 : decode cX7_reward 62 = .ok (.astore 4, 2) := by decide +kernel
theorem dX7_reward_64 : decode cX7_reward 64 = .ok (.goto (-58), 3) := by decide +kernel
theorem dX7_reward_67 : decode cX7_reward 67 = .ok (.return_, 1) := by decide +kernel
theorem dX7_bar_0 : decode cX7_bar 0 = .ok (.aload_n 1, 1) := by decide +kernel
theorem dX7_bar_1 : decode cX7_bar 1 = .ok (.getfield 118, 3) := by decide +kernel
theorem dX7_bar_4 : decode cX7_bar 4 = .ok (.astore_n 2, 1) := by decide +kernel
end
section
theorem dX7_bar_5 : decode cX7_bar 5 = .ok (.aload_n 2, 1) := by decide +kernel
theorem dX7_bar_6 : decode cX7_bar 6 = .ok (.ifnull 30, 3) := by decide +kernel
theorem dX7_bar_9 : decode cX7_bar 9 = .ok (.aload_n 2, 1) := by decide +kernel
theorem dX7_bar_10 : decode cX7_bar 10 = .ok (.getfield 119, 3) := by decide +kernel
theorem dX7_bar_13 : decode cX7_bar 13 = .ok (.astore_n 3, 1) := by decide +kernel
theorem dX7_bar_14 : decode cX7_bar 14 = .ok (.aload_n 3, 1) := by decide +kernel
theorem dX7_bar_15 : decode cX7_bar 15 = .ok (.ifnull 13, 3) := by decide +kernel
theorem dX7_bar_18 : decode cX7_bar 18 = .ok (.aload_n 0, 1) := by decide +kernel
theorem dX7_bar_19 : decode cX7_bar 19 = .ok (.aload_n 3, 1) := by decide +kernel
theorem dX7_bar_20 : decode cX7_bar 20 = .ok (.invokevirtual 32, 3) := by decide +kernel
theorem dX7_bar_23 : decode cX7_bar 23 = .ok (.aload_n 3, 1) := by decide +kernel
theorem dX7_bar_24 : decode cX7_bar 24 = .ok (.iconst 1, 1) := by decide +kernel
theorem dX7_bar_25 : decode cX7_bar 25 = .ok (.putfield 36, 3) := by decide +kernel
theorem dX7_bar_28 : decode cX7_bar 28 = .ok (.aload_n 2, 1) := by decide +kernel
theorem dX7_bar_29 : decode cX7_bar 29 = .ok (.getfield 132, 3) := by decide +kernel
theorem dX7_bar_32 : decode cX7_bar 32 = .ok (.astore_n 2, 1) := by decide +kernel
theorem dX7_bar_33 : decode cX7_bar 33 = .ok (.goto (-28), 3) := by decide +kernel
theorem dX7_bar_36 : decode cX7_bar 36 = .ok (.return_, 1) := by decide +kernel
theorem dX7_meet_0 : decode cX7_meet 0 = .ok (.aload_n 1, 1) := by decide +kernel
theorem dX7_meet_1 : decode cX7_meet 1 = .ok (.getfield 135, 3) := by decide +kernel
theorem dX7_meet_4 : decode cX7_meet 4 = .ok (.ifCond .eq 4, 3) := by decide +kernel
theorem dX7_meet_7 : decode cX7_meet 7 = .ok (.return_, 1) := by decide +kernel
theorem dX7_meet_8 : decode cX7_meet 8 = .ok (.aload_n 1, 1) := by decide +kernel
theorem dX7_meet_9 : decode cX7_meet 9 = .ok (.iconst 1, 1) := by decide +kernel
theorem dX7_meet_10 : decode cX7_meet 10 = .ok (.putfield 135, 3) := by decide +kernel
theorem dX7_meet_13 : decode cX7_meet 13 = .ok (.aload_n 1, 1) := by decide +kernel
theorem dX7_meet_14 : decode cX7_meet 14 = .ok (.iconst 0, 1) := by decide +kernel
theorem dX7_meet_15 : decode cX7_meet 15 = .ok (.putfield 36, 3) := by decide +kernel
theorem dX7_meet_18 : decode cX7_meet 18 = .ok (.aload_n 1, 1) := by decide +kernel
theorem dX7_meet_19 : decode cX7_meet 19 = .ok (.iconst 0, 1) := by decide +kernel
theorem dX7_meet_20 : decode cX7_meet 20 = .ok (.putfield 123, 3) := by decide +kernel
theorem dX7_meet_23 : decode cX7_meet 23 = .ok (.aload_n 1, 1) := by decide +kernel
theorem dX7_meet_24 : decode cX7_meet 24 = .ok (.iconst 0, 1) := by decide +kernel
theorem dX7_meet_25 : decode cX7_meet 25 = .ok (.putfield 126, 3) := by decide +kernel
theorem dX7_meet_28 : decode cX7_meet 28 = .ok (.aload_n 1, 1) := by decide +kernel
theorem dX7_meet_29 : decode cX7_meet 29 = .ok (.aload_n 0, 1) := by decide +kernel
theorem dX7_meet_30 : decode cX7_meet 30 = .ok (.getfield 138, 3) := by decide +kernel
theorem dX7_meet_33 : decode cX7_meet 33 = .ok (.putfield 141, 3) := by decide +kernel
theorem dX7_meet_36 : decode cX7_meet 36 = .ok (.aload_n 0, 1) := by decide +kernel
theorem dX7_meet_37 : decode cX7_meet 37 = .ok (.aload_n 1, 1) := by decide +kernel
theorem dX7_meet_38 : decode cX7_meet 38 = .ok (.putfield 138, 3) := by decide +kernel
theorem dX7_meet_41 : decode cX7_meet 41 = .ok (.return_, 1) := by decide +kernel
theorem dX7_harvest_0 : decode cX7_harvest 0 = .ok (.aload_n 0, 1) := by decide +kernel
theorem dX7_harvest_1 : decode cX7_harvest 1 = .ok (.getfield 138, 3) := by decide +kernel
theorem dX7_harvest_4 : decode cX7_harvest 4 = .ok (.astore_n 2, 1) := by decide +kernel
theorem dX7_harvest_5 : decode cX7_harvest 5 = .ok (.aload_n 2, 1) := by decide +kernel
theorem dX7_harvest_6 : decode cX7_harvest 6 = .ok (.ifnull 68, 3) := by decide +kernel
theorem dX7_harvest_9 : decode cX7_harvest 9 = .ok (.aload_n 2, 1) := by decide +kernel
theorem dX7_harvest_10 : decode cX7_harvest 10 = .ok (.getfield 123, 3) := by decide +kernel
theorem dX7_harvest_13 : decode cX7_harvest 13 = .ok (.aload_n 0, 1) := by decide +kernel
theorem dX7_harvest_14 : decode cX7_harvest 14 = .ok (.getfield 9, 3) := by decide +kernel
theorem dX7_harvest_17 : decode cX7_harvest 17 = .ok (.iand, 1) := by decide +kernel
theorem dX7_harvest_18 : decode cX7_harvest 18 = .ok (.aload_n 0, 1) := by decide +kernel
theorem dX7_harvest_19 : decode cX7_harvest 19 = .ok (.getfield 9, 3) := by decide +kernel
theorem dX7_harvest_22 : decode cX7_harvest 22 = .ok (.if_icmp .ne 7, 3) := by decide +kernel
theorem dX7_harvest_25 : decode cX7_harvest 25 = .ok (.iconst 1, 1) := by decide +kernel
theorem dX7_harvest_26 : decode cX7_harvest 26 = .ok (.goto 4, 3) := by decide +kernel
theorem dX7_harvest_29 : decode cX7_harvest 29 = .ok (.iconst 0, 1) := by decide +kernel
theorem dX7_harvest_30 : decode cX7_harvest 30 = .ok (.istore_n 3, 1) := by decide +kernel
theorem dX7_harvest_31 : decode cX7_harvest 31 = .ok (.aload_n 2, 1) := by decide +kernel
theorem dX7_harvest_32 : decode cX7_harvest 32 = .ok (.getfield 36, 3) := by decide +kernel
theorem dX7_harvest_35 : decode cX7_harvest 35 = .ok (.ifCond .ne 26, 3) := by decide +kernel
theorem dX7_harvest_38 : decode cX7_harvest 38 = .ok (.iload_n 3, 1) := by decide +kernel
theorem dX7_harvest_39 : decode cX7_harvest 39 = .ok (.ifCond .eq 22, 3) := by decide +kernel
theorem dX7_harvest_42 : decode cX7_harvest 42 = .ok (.aload_n 2, 1) := by decide +kernel
theorem dX7_harvest_43 : decode cX7_harvest 43 = .ok (.getfield 126, 3) := by decide +kernel
theorem dX7_harvest_46 : decode cX7_harvest 46 = .ok (.ifCond .le 15, 3) := by decide +kernel
theorem dX7_harvest_49 : decode cX7_harvest 49 = .ok (.aload_n 1, 1) := by decide +kernel
theorem dX7_harvest_50 : decode cX7_harvest 50 = .ok (.aload_n 2, 1) := by decide +kernel
theorem dX7_harvest_51 : decode cX7_harvest 51 = .ok (.getfield 144, 3) := by decide +kernel
theorem dX7_harvest_54 : decode cX7_harvest 54 = .ok (.aload_n 2, 1) := by decide +kernel
theorem dX7_harvest_55 : decode cX7_harvest 55 = .ok (.getfield 126, 3) := by decide +kernel
theorem dX7_harvest_58 : decode cX7_harvest 58 = .ok (.invokevirtual 147, 3) := by decide +kernel
theorem dX7_harvest_61 : decode cX7_harvest 61 = .ok (.aload_n 2, 1) := by decide +kernel
theorem dX7_harvest_62 : decode cX7_harvest 62 = .ok (.iconst 0, 1) := by decide +kernel
theorem dX7_harvest_63 : decode cX7_harvest 63 = .ok (.putfield 135, 3) := by decide +kernel
theorem dX7_harvest_66 : decode cX7_harvest 66 = .ok (.aload_n 2, 1) := by decide +kernel
theorem dX7_harvest_67 : decode cX7_harvest 67 = .ok (.getfield 141, 3) := by decide +kernel
theorem dX7_harvest_70 : decode cX7_harvest 70 = .ok (.astore_n 2, 1) := by decide +kernel
theorem dX7_harvest_71 : decode cX7_harvest 71 = .ok (.goto (-66), 3) := by decide +kernel
theorem dX7_harvest_74 : decode cX7_harvest 74 = .ok (.aload_n 0, 1) := by decide +kernel
theorem dX7_harvest_75 : decode cX7_harvest 75 = .ok (.aconst_null, 1) := by decide +kernel
theorem dX7_harvest_76 : decode cX7_harvest 76 = .ok (.putfield 138, 3) := by decide +kernel
theorem dX7_harvest_79 : decode cX7_harvest 79 = .ok (.return_, 1) := by decide +kernel
theorem dX8_init_0 : decode cX8_init 0 = .ok (.aload_n 0, 1) := by decide +kernel
theorem dX8_init_1 : decode cX8_init 1 = .ok (.invokespecial 3, 3) := by decide +kernel
theorem dX8_init_4 : decode cX8_init 4 = .ok (.aload_n 0, 1) := by decide +kernel
theorem dX8_init_5 : decode cX8_init 5 = .ok (.sipush 400, 3) := by decide +kernel
theorem dX8_init_8 : decode cX8_init 8 = .ok (.newarray .byte, 2) := by decide +kernel
theorem dX8_init_10 : decode cX8_init 10 = .ok (.putfield 9, 3) := by decide +kernel
theorem dX8_init_13 : decode cX8_init 13 = .ok (.return_, 1) := by decide +kernel
theorem dX8_length_0 : decode cX8_length 0 = .ok (.aload_n 0, 1) := by decide +kernel
theorem dX8_length_1 : decode cX8_length 1 = .ok (.getfield 15, 3) := by decide +kernel
theorem dX8_length_4 : decode cX8_length 4 = .ok (.ireturn, 1) := by decide +kernel
theorem dX8_empty_0 : decode cX8_empty 0 = .ok (.aload_n 0, 1) := by decide +kernel
theorem dX8_empty_1 : decode cX8_empty 1 = .ok (.iconst 0, 1) := by decide +kernel
theorem dX8_empty_2 : decode cX8_empty 2 = .ok (.putfield 15, 3) := by decide +kernel
theorem dX8_empty_5 : decode cX8_empty 5 = .ok (.return_, 1) := by decide +kernel
theorem dX8_append_0 : decode cX8_append 0 = .ok (.iload_n 1, 1) := by decide +kernel
theorem dX8_append_1 : decode cX8_append 1 = .ok (.aload_n 0, 1) := by decide +kernel
theorem dX8_append_2 : decode cX8_append 2 = .ok (.getfield 9, 3) := by decide +kernel
theorem dX8_append_5 : decode cX8_append 5 = .ok (.arraylength, 1) := by decide +kernel
theorem dX8_append_6 : decode cX8_append 6 = .ok (.aload_n 0, 1) := by decide +kernel
theorem dX8_append_7 : decode cX8_append 7 = .ok (.getfield 15, 3) := by decide +kernel
theorem dX8_append_10 : decode cX8_append 10 = .ok (.isub, 1) := by decide +kernel
theorem dX8_append_11 : decode cX8_append 11 = .ok (.if_icmp .le 5, 3) := by decide +kernel
theorem dX8_append_14 : decode cX8_append 14 = .ok (.iconst 0, 1) := by decide +kernel
theorem dX8_append_15 : decode cX8_append 15 = .ok (.ireturn, 1) := by decide +kernel
theorem dX8_append_16 : decode cX8_append 16 = .ok (.iconst 0, 1) := by decide +kernel
theorem dX8_append_17 : decode cX8_append 17 = .ok (.istore 4, 2) := by decide +kernel
theorem dX8_append_19 : decode cX8_append 19 = .ok (.iload 4, 2) := by decide +kernel
theorem dX8_append_21 : decode cX8_append 21 = .ok (.iload_n 1, 1) := by decide +kernel
theorem dX8_append_22 : decode cX8_append 22 = .ok (.if_icmp .ge 30, 3) := by decide +kernel
theorem dX8_append_25 : decode cX8_append 25 = .ok (.aload_n 0, 1) := by decide +kernel
theorem dX8_append_26 : decode cX8_append 26 = .ok (.getfield 9, 3) := by decide +kernel
theorem dX8_append_29 : decode cX8_append 29 = .ok (.aload_n 0, 1) := by decide +kernel
theorem dX8_append_30 : decode cX8_append 30 = .ok (.getfield 15, 3) := by decide +kernel
theorem dX8_append_33 : decode cX8_append 33 = .ok (.iload 4, 2) := by decide +kernel
theorem dX8_append_35 : decode cX8_append 35 = .ok (.iadd, 1) := by decide +kernel
theorem dX8_append_36 : decode cX8_append 36 = .ok (.lload_n 2, 1) := by decide +kernel
theorem dX8_append_37 : decode cX8_append 37 = .ok (.bipush 8, 2) := by decide +kernel
theorem dX8_append_39 : decode cX8_append 39 = .ok (.iload 4, 2) := by decide +kernel
theorem dX8_append_41 : decode cX8_append 41 = .ok (.imul, 1) := by decide +kernel
theorem dX8_append_42 : decode cX8_append 42 = .ok (.lshr, 1) := by decide +kernel
theorem dX8_append_43 : decode cX8_append 43 = .ok (.l2i, 1) := by decide +kernel
theorem dX8_append_44 : decode cX8_append 44 = .ok (.i2b, 1) := by decide +kernel
theorem dX8_append_45 : decode cX8_append 45 = .ok (.bastore, 1) := by decide +kernel
theorem dX8_append_46 : decode cX8_append 46 = .ok (.iinc 4 1, 3) := by decide +kernel
theorem dX8_append_49 : decode cX8_append 49 = .ok (.goto (-30), 3) := by decide +kernel
theorem dX8_append_52 : decode cX8_append 52 = .ok (.aload_n 0, 1) := by decide +kernel
theorem dX8_append_53 : decode cX8_append 53 = .ok (.dup, 1) := by decide +kernel
theorem dX8_append_54 : decode cX8_append 54 = .ok (.getfield 15, 3) := by decide +kernel
theorem dX8_append_57 : decode cX8_append 57 = .ok (.iload_n 1, 1) := by decide +kernel
theorem dX8_append_58 : decode cX8_append 58 = .ok (.iadd, 1) := by decide +kernel
theorem dX8_append_59 : decode cX8_append 59 = .ok (.putfield 15, 3) := by decide +kernel
theorem dX8_append_62 : decode cX8_append 62 = .ok (.iconst 1, 1) := by decide +kernel
theorem dX8_append_63 : decode cX8_append 63 = .ok (.ireturn, 1) := by decide +kernel
theorem dX8_byteAt_0 : decode cX8_byteAt 0 = .ok (.iload_n 1, 1) := by decide +kernel
theorem dX8_byteAt_1 : decode cX8_byteAt 1 = .ok (.ifCond .lt 24, 3) := by decide +kernel
theorem dX8_byteAt_4 : decode cX8_byteAt 4 = .ok (.iload_n 1, 1) := by decide +kernel
theorem dX8_byteAt_5 : decode cX8_byteAt 5 = .ok (.aload_n 0, 1) := by decide +kernel
theorem dX8_byteAt_6 : decode cX8_byteAt 6 = .ok (.getfield 15, 3) := by decide +kernel
theorem dX8_byteAt_9 : decode cX8_byteAt 9 = .ok (.if_icmp .ge 16, 3) := by decide +kernel
theorem dX8_byteAt_12 : decode cX8_byteAt 12 = .ok (.aload_n 0, 1) := by decide +kernel
theorem dX8_byteAt_13 : decode cX8_byteAt 13 = .ok (.getfield 9, 3) := by decide +kernel
theorem dX8_byteAt_16 : decode cX8_byteAt 16 = .ok (.iload_n 1, 1) := by decide +kernel
theorem dX8_byteAt_17 : decode cX8_byteAt 17 = .ok (.baload, 1) := by decide +kernel
theorem dX8_byteAt_18 : decode cX8_byteAt 18 = .ok (.sipush 255, 3) := by decide +kernel
theorem dX8_byteAt_21 : decode cX8_byteAt 21 = .ok (.iand, 1) := by decide +kernel
theorem dX8_byteAt_22 : decode cX8_byteAt 22 = .ok (.goto 4, 3) := by decide +kernel
theorem dX8_byteAt_25 : decode cX8_byteAt 25 = .ok (.iconst (-1), 1) := by decide +kernel
theorem dX8_byteAt_26 : decode cX8_byteAt 26 = .ok (.ireturn, 1) := by decide +kernel
theorem dX8_wordStart_0 : decode cX8_wordStart 0 = .ok (.iload_n 1, 1) := by decide +kernel
theorem dX8_wordStart_1 : decode cX8_wordStart 1 = .ok (.istore_n 2, 1) := by decide +kernel
theorem dX8_wordStart_2 : decode cX8_wordStart 2 = .ok (.iload_n 2, 1) := by decide +kernel
theorem dX8_wordStart_3 : decode cX8_wordStart 3 = .ok (.aload_n 0, 1) := by decide +kernel
theorem dX8_wordStart_4 : decode cX8_wordStart 4 = .ok (.getfield 15, 3) := by decide +kernel
theorem dX8_wordStart_7 : decode cX8_wordStart 7 = .ok (.if_icmp .ge 22, 3) := by decide +kernel
theorem dX8_wordStart_10 : decode cX8_wordStart 10 = .ok (.aload_n 0, 1) := by decide +kernel
theorem dX8_wordStart_11 : decode cX8_wordStart 11 = .ok (.iload_n 2, 1) := by decide +kernel
theorem dX8_wordStart_12 : decode cX8_wordStart 12 = .ok (.invokevirtual 19, 3) := by decide +kernel
theorem dX8_wordStart_15 : decode cX8_wordStart 15 = .ok (.invokestatic 23, 3) := by decide +kernel
theorem dX8_wordStart_18 : decode cX8_wordStart 18 = .ok (.ifCond .eq 5, 3) := by decide +kernel
theorem dX8_wordStart_21 : decode cX8_wordStart 21 = .ok (.iload_n 2, 1) := by decide +kernel
theorem dX8_wordStart_22 : decode cX8_wordStart 22 = .ok (.ireturn, 1) := by decide +kernel
theorem dX8_wordStart_23 : decode cX8_wordStart 23 = .ok (.iinc 2 1, 3) := by decide +kernel
theorem dX8_wordStart_26 : decode cX8_wordStart 26 = .ok (.goto (-24), 3) := by decide +kernel
theorem dX8_wordStart_29 : decode cX8_wordStart 29 = .ok (.aload_n 0, 1) := by decide +kernel
theorem dX8_wordStart_30 : decode cX8_wordStart 30 = .ok (.getfield 15, 3) := by decide +kernel
theorem dX8_wordStart_33 : decode cX8_wordStart 33 = .ok (.ireturn, 1) := by decide +kernel
theorem dX8_wordEnd_0 : decode cX8_wordEnd 0 = .ok (.iload_n 1, 1) := by decide +kernel
theorem dX8_wordEnd_1 : decode cX8_wordEnd 1 = .ok (.istore_n 2, 1) := by decide +kernel
theorem dX8_wordEnd_2 : decode cX8_wordEnd 2 = .ok (.iload_n 2, 1) := by decide +kernel
theorem dX8_wordEnd_3 : decode cX8_wordEnd 3 = .ok (.aload_n 0, 1) := by decide +kernel
theorem dX8_wordEnd_4 : decode cX8_wordEnd 4 = .ok (.getfield 15, 3) := by decide +kernel
theorem dX8_wordEnd_7 : decode cX8_wordEnd 7 = .ok (.if_icmp .ge 22, 3) := by decide +kernel
theorem dX8_wordEnd_10 : decode cX8_wordEnd 10 = .ok (.aload_n 0, 1) := by decide +kernel
theorem dX8_wordEnd_11 : decode cX8_wordEnd 11 = .ok (.iload_n 2, 1) := by decide +kernel
theorem dX8_wordEnd_12 : decode cX8_wordEnd 12 = .ok (.invokevirtual 19, 3) := by decide +kernel
theorem dX8_wordEnd_15 : decode cX8_wordEnd 15 = .ok (.invokestatic 23, 3) := by decide +kernel
theorem dX8_wordEnd_18 : decode cX8_wordEnd 18 = .ok (.ifCond .ne 5, 3) := by decide +kernel
theorem dX8_wordEnd_21 : decode cX8_wordEnd 21 = .ok (.iload_n 2, 1) := by decide +kernel
theorem dX8_wordEnd_22 : decode cX8_wordEnd 22 = .ok (.ireturn, 1) := by decide +kernel
theorem dX8_wordEnd_23 : decode cX8_wordEnd 23 = .ok (.iinc 2 1, 3) := by decide +kernel
theorem dX8_wordEnd_26 : decode cX8_wordEnd 26 = .ok (.goto (-24), 3) := by decide +kernel
theorem dX8_wordEnd_29 : decode cX8_wordEnd 29 = .ok (.aload_n 0, 1) := by decide +kernel
theorem dX8_wordEnd_30 : decode cX8_wordEnd 30 = .ok (.getfield 15, 3) := by decide +kernel
theorem dX8_wordEnd_33 : decode cX8_wordEnd 33 = .ok (.ireturn, 1) := by decide +kernel
theorem dX8_lettersOf_0 : decode cX8_lettersOf 0 = .ok (.lconst 0, 1) := by decide +kernel
theorem dX8_lettersOf_1 : decode cX8_lettersOf 1 = .ok (.lstore_n 3, 1) := by decide +kernel
theorem dX8_lettersOf_2 : decode cX8_lettersOf 2 = .ok (.iconst 0, 1) := by decide +kernel
theorem dX8_lettersOf_3 : decode cX8_lettersOf 3 = .ok (.istore 5, 2) := by decide +kernel
theorem dX8_lettersOf_5 : decode cX8_lettersOf 5 = .ok (.iload 5, 2) := by decide +kernel
theorem dX8_lettersOf_7 : decode cX8_lettersOf 7 = .ok (.bipush 12, 2) := by decide +kernel
theorem dX8_lettersOf_9 : decode cX8_lettersOf 9 = .ok (.if_icmp .ge 35, 3) := by decide +kernel
theorem dX8_lettersOf_12 : decode cX8_lettersOf 12 = .ok (.iload_n 1, 1) := by decide +kernel
theorem dX8_lettersOf_13 : decode cX8_lettersOf 13 = .ok (.iload 5, 2) := by decide +kernel
theorem dX8_lettersOf_15 : decode cX8_lettersOf 15 = .ok (.iadd, 1) := by decide +kernel
theorem dX8_lettersOf_16 : decode cX8_lettersOf 16 = .ok (.iload_n 2, 1) := by decide +kernel
theorem dX8_lettersOf_17 : decode cX8_lettersOf 17 = .ok (.if_icmp .ge 27, 3) := by decide +kernel
theorem dX8_lettersOf_20 : decode cX8_lettersOf 20 = .ok (.lload_n 3, 1) := by decide +kernel
theorem dX8_lettersOf_21 : decode cX8_lettersOf 21 = .ok (.iload 5, 2) := by decide +kernel
theorem dX8_lettersOf_23 : decode cX8_lettersOf 23 = .ok (.aload_n 0, 1) := by decide +kernel
theorem dX8_lettersOf_24 : decode cX8_lettersOf 24 = .ok (.iload_n 1, 1) := by decide +kernel
theorem dX8_lettersOf_25 : decode cX8_lettersOf 25 = .ok (.iload 5, 2) := by decide +kernel
theorem dX8_lettersOf_27 : decode cX8_lettersOf 27 = .ok (.iadd, 1) := by decide +kernel
theorem dX8_lettersOf_28 : decode cX8_lettersOf 28 = .ok (.invokevirtual 19, 3) := by decide +kernel
theorem dX8_lettersOf_31 : decode cX8_lettersOf 31 = .ok (.invokestatic 29, 3) := by decide +kernel
theorem dX8_lettersOf_34 : decode cX8_lettersOf 34 = .ok (.invokestatic 32, 3) := by decide +kernel
theorem dX8_lettersOf_37 : decode cX8_lettersOf 37 = .ok (.lstore_n 3, 1) := by decide +kernel
theorem dX8_lettersOf_38 : decode cX8_lettersOf 38 = .ok (.iinc 5 1, 3) := by decide +kernel
theorem dX8_lettersOf_41 : decode cX8_lettersOf 41 = .ok (.goto (-36), 3) := by decide +kernel
theorem dX8_lettersOf_44 : decode cX8_lettersOf 44 = .ok (.lload_n 3, 1) := by decide +kernel
theorem dX8_lettersOf_45 : decode cX8_lettersOf 45 = .ok (.lreturn, 1) := by decide +kernel
theorem dX9_init_0 : decode cX9_init 0 = .ok (.aload_n 0, 1) := by decide +kernel
theorem dX9_init_1 : decode cX9_init 1 = .ok (.invokespecial 3, 3) := by decide +kernel
theorem dX9_init_4 : decode cX9_init 4 = .ok (.return_, 1) := by decide +kernel
theorem dX9_begin_0 : decode cX9_begin 0 = .ok (.aload_n 0, 1) := by decide +kernel
theorem dX9_begin_1 : decode cX9_begin 1 = .ok (.iconst 0, 1) := by decide +kernel
theorem dX9_begin_2 : decode cX9_begin 2 = .ok (.putfield 9, 3) := by decide +kernel
theorem dX9_begin_5 : decode cX9_begin 5 = .ok (.aload_n 0, 1) := by decide +kernel
theorem dX9_begin_6 : decode cX9_begin 6 = .ok (.iconst 0, 1) := by decide +kernel
theorem dX9_begin_7 : decode cX9_begin 7 = .ok (.putfield 15, 3) := by decide +kernel
theorem dX9_begin_10 : decode cX9_begin 10 = .ok (.aload_n 0, 1) := by decide +kernel
theorem dX9_begin_11 : decode cX9_begin 11 = .ok (.iconst 0, 1) := by decide +kernel
theorem dX9_begin_12 : decode cX9_begin 12 = .ok (.putfield 18, 3) := by decide +kernel
theorem dX9_begin_15 : decode cX9_begin 15 = .ok (.aload_n 0, 1) := by decide +kernel
theorem dX9_begin_16 : decode cX9_begin 16 = .ok (.lconst 0, 1) := by decide +kernel
theorem dX9_begin_17 : decode cX9_begin 17 = .ok (.putfield 21, 3) := by decide +kernel
theorem dX9_begin_20 : decode cX9_begin 20 = .ok (.aload_n 0, 1) := by decide +kernel
theorem dX9_begin_21 : decode cX9_begin 21 = .ok (.iconst 0, 1) := by decide +kernel
theorem dX9_begin_22 : decode cX9_begin 22 = .ok (.putfield 25, 3) := by decide +kernel
theorem dX9_begin_25 : decode cX9_begin 25 = .ok (.aload_n 0, 1) := by decide +kernel
theorem dX9_begin_26 : decode cX9_begin 26 = .ok (.iconst 1, 1) := by decide +kernel
theorem dX9_begin_27 : decode cX9_begin 27 = .ok (.putfield 29, 3) := by decide +kernel
theorem dX9_begin_30 : decode cX9_begin 30 = .ok (.return_, 1) := by decide +kernel
theorem dX9_append_0 : decode cX9_append 0 = .ok (.aload_n 0, 1) := by decide +kernel
theorem dX9_append_1 : decode cX9_append 1 = .ok (.getfield 25, 3) := by decide +kernel
theorem dX9_append_4 : decode cX9_append 4 = .ok (.bipush 12, 2) := by decide +kernel
theorem dX9_append_6 : decode cX9_append 6 = .ok (.if_icmp .lt 5, 3) := by decide +kernel
theorem dX9_append_9 : decode cX9_append 9 = .ok (.iconst 0, 1) := by decide +kernel
theorem dX9_append_10 : decode cX9_append 10 = .ok (.ireturn, 1) := by decide +kernel
theorem dX9_append_11 : decode cX9_append 11 = .ok (.aload_n 0, 1) := by decide +kernel
theorem dX9_append_12 : decode cX9_append 12 = .ok (.aload_n 0, 1) := by decide +kernel
theorem dX9_append_13 : decode cX9_append 13 = .ok (.getfield 21, 3) := by decide +kernel
theorem dX9_append_16 : decode cX9_append 16 = .ok (.aload_n 0, 1) := by decide +kernel
theorem dX9_append_17 : decode cX9_append 17 = .ok (.getfield 25, 3) := by decide +kernel
theorem dX9_append_20 : decode cX9_append 20 = .ok (.iload_n 1, 1) := by decide +kernel
theorem dX9_append_21 : decode cX9_append 21 = .ok (.invokestatic 32, 3) := by decide +kernel
theorem dX9_append_24 : decode cX9_append 24 = .ok (.putfield 21, 3) := by decide +kernel
theorem dX9_append_27 : decode cX9_append 27 = .ok (.aload_n 0, 1) := by decide +kernel
theorem dX9_append_28 : decode cX9_append 28 = .ok (.dup, 1) := by decide +kernel
theorem dX9_append_29 : decode cX9_append 29 = .ok (.getfield 25, 3) := by decide +kernel
theorem dX9_append_32 : decode cX9_append 32 = .ok (.iconst 1, 1) := by decide +kernel
theorem dX9_append_33 : decode cX9_append 33 = .ok (.iadd, 1) := by decide +kernel
theorem dX9_append_34 : decode cX9_append 34 = .ok (.putfield 25, 3) := by decide +kernel
theorem dX9_append_37 : decode cX9_append 37 = .ok (.iconst 1, 1) := by decide +kernel
theorem dX9_append_38 : decode cX9_append 38 = .ok (.ireturn, 1) := by decide +kernel
theorem dX9_lastLetters_0 : decode cX9_lastLetters 0 = .ok (.aload_n 0, 1) := by decide +kernel
theorem dX9_lastLetters_1 : decode cX9_lastLetters 1 = .ok (.getfield 18, 3) := by decide +kernel
theorem dX9_lastLetters_4 : decode cX9_lastLetters 4 = .ok (.ifCond .eq 17, 3) := by decide +kernel
theorem dX9_lastLetters_7 : decode cX9_lastLetters 7 = .ok (.aload_n 0, 1) := by decide +kernel
theorem dX9_lastLetters_8 : decode cX9_lastLetters 8 = .ok (.getfield 21, 3) := by decide +kernel
theorem dX9_lastLetters_11 : decode cX9_lastLetters 11 = .ok (.aload_n 0, 1) := by decide +kernel
theorem dX9_lastLetters_12 : decode cX9_lastLetters 12 = .ok (.getfield 25, 3) := by decide +kernel
theorem dX9_lastLetters_15 : decode cX9_lastLetters 15 = .ok (.invokestatic 38, 3) := by decide +kernel
theorem dX9_lastLetters_18 : decode cX9_lastLetters 18 = .ok (.goto 7, 3) := by decide +kernel
theorem dX9_lastLetters_21 : decode cX9_lastLetters 21 = .ok (.aload_n 0, 1) := by decide +kernel
theorem dX9_lastLetters_22 : decode cX9_lastLetters 22 = .ok (.getfield 21, 3) := by decide +kernel
theorem dX9_lastLetters_25 : decode cX9_lastLetters 25 = .ok (.lreturn, 1) := by decide +kernel
theorem dX10_init_0 : decode cX10_init 0 = .ok (.aload_n 0, 1) := by decide +kernel
theorem dX10_init_1 : decode cX10_init 1 = .ok (.invokespecial 1, 3) := by decide +kernel
theorem dX10_init_4 : decode cX10_init 4 = .ok (.return_, 1) := by decide +kernel
theorem dX10_begin_0 : decode cX10_begin 0 = .ok (.aload_n 0, 1) := by decide +kernel
theorem dX10_begin_1 : decode cX10_begin 1 = .ok (.lload_n 1, 1) := by decide +kernel
theorem dX10_begin_2 : decode cX10_begin 2 = .ok (.putfield 7, 3) := by decide +kernel
theorem dX10_begin_5 : decode cX10_begin 5 = .ok (.aload_n 0, 1) := by decide +kernel
theorem dX10_begin_6 : decode cX10_begin 6 = .ok (.iconst 0, 1) := by decide +kernel
theorem dX10_begin_7 : decode cX10_begin 7 = .ok (.putfield 13, 3) := by decide +kernel
theorem dX10_begin_10 : decode cX10_begin 10 = .ok (.aload_n 0, 1) := by decide +kernel
theorem dX10_begin_11 : decode cX10_begin 11 = .ok (.iconst 0, 1) := by decide +kernel
theorem dX10_begin_12 : decode cX10_begin 12 = .ok (.putfield 17, 3) := by decide +kernel
theorem dX10_begin_15 : decode cX10_begin 15 = .ok (.aload_n 0, 1) := by decide +kernel
theorem dX10_begin_16 : decode cX10_begin 16 = .ok (.aconst_null, 1) := by decide +kernel
theorem dX10_begin_17 : decode cX10_begin 17 = .ok (.putfield 20, 3) := by decide +kernel
theorem dX10_begin_20 : decode cX10_begin 20 = .ok (.aload_n 0, 1) := by decide +kernel
theorem dX10_begin_21 : decode cX10_begin 21 = .ok (.aconst_null, 1) := by decide +kernel
theorem dX10_begin_22 : decode cX10_begin 22 = .ok (.putfield 24, 3) := by decide +kernel
theorem dX10_begin_25 : decode cX10_begin 25 = .ok (.return_, 1) := by decide +kernel
theorem dX10_link_0 : decode cX10_link 0 = .ok (.aload_n 1, 1) := by decide +kernel
theorem dX10_link_1 : decode cX10_link 1 = .ok (.aconst_null, 1) := by decide +kernel
theorem dX10_link_2 : decode cX10_link 2 = .ok (.putfield 28, 3) := by decide +kernel
theorem dX10_link_5 : decode cX10_link 5 = .ok (.aload_n 1, 1) := by decide +kernel
theorem dX10_link_6 : decode cX10_link 6 = .ok (.aload_n 0, 1) := by decide +kernel
theorem dX10_link_7 : decode cX10_link 7 = .ok (.getfield 20, 3) := by decide +kernel
theorem dX10_link_10 : decode cX10_link 10 = .ok (.putfield 33, 3) := by decide +kernel
theorem dX10_link_13 : decode cX10_link 13 = .ok (.aload_n 0, 1) := by decide +kernel
theorem dX10_link_14 : decode cX10_link 14 = .ok (.getfield 20, 3) := by decide +kernel
theorem dX10_link_17 : decode cX10_link 17 = .ok (.ifnull 11, 3) := by decide +kernel
theorem dX10_link_20 : decode cX10_link 20 = .ok (.aload_n 0, 1) := by decide +kernel
theorem dX10_link_21 : decode cX10_link 21 = .ok (.getfield 20, 3) := by decide +kernel
theorem dX10_link_24 : decode cX10_link 24 = .ok (.aload_n 1, 1) := by decide +kernel
theorem dX10_link_25 : decode cX10_link 25 = .ok (.putfield 28, 3) := by decide +kernel
theorem dX10_link_28 : decode cX10_link 28 = .ok (.aload_n 0, 1) := by decide +kernel
theorem dX10_link_29 : decode cX10_link 29 = .ok (.aload_n 1, 1) := by decide +kernel
theorem dX10_link_30 : decode cX10_link 30 = .ok (.putfield 20, 3) := by decide +kernel
theorem dX10_link_33 : decode cX10_link 33 = .ok (.aload_n 0, 1) := by decide +kernel
theorem dX10_link_34 : decode cX10_link 34 = .ok (.dup, 1) := by decide +kernel
theorem dX10_link_35 : decode cX10_link 35 = .ok (.getfield 13, 3) := by decide +kernel
theorem dX10_link_38 : decode cX10_link 38 = .ok (.iconst 1, 1) := by decide +kernel
theorem dX10_link_39 : decode cX10_link 39 = .ok (.iadd, 1) := by decide +kernel
theorem dX10_link_40 : decode cX10_link 40 = .ok (.putfield 13, 3) := by decide +kernel
theorem dX10_link_43 : decode cX10_link 43 = .ok (.return_, 1) := by decide +kernel
theorem dX10_unlink_0 : decode cX10_unlink 0 = .ok (.aload_n 1, 1) := by decide +kernel
theorem dX10_unlink_1 : decode cX10_unlink 1 = .ok (.getfield 28, 3) := by decide +kernel
theorem dX10_unlink_4 : decode cX10_unlink 4 = .ok (.ifnonnull 14, 3) := by decide +kernel
theorem dX10_unlink_7 : decode cX10_unlink 7 = .ok (.aload_n 0, 1) := by decide +kernel
theorem dX10_unlink_8 : decode cX10_unlink 8 = .ok (.aload_n 1, 1) := by decide +kernel
theorem dX10_unlink_9 : decode cX10_unlink 9 = .ok (.getfield 33, 3) := by decide +kernel
theorem dX10_unlink_12 : decode cX10_unlink 12 = .ok (.putfield 20, 3) := by decide +kernel
theorem dX10_unlink_15 : decode cX10_unlink 15 = .ok (.goto 14, 3) := by decide +kernel
theorem dX10_unlink_18 : decode cX10_unlink 18 = .ok (.aload_n 1, 1) := by decide +kernel
theorem dX10_unlink_19 : decode cX10_unlink 19 = .ok (.getfield 28, 3) := by decide +kernel
theorem dX10_unlink_22 : decode cX10_unlink 22 = .ok (.aload_n 1, 1) := by decide +kernel
theorem dX10_unlink_23 : decode cX10_unlink 23 = .ok (.getfield 33, 3) := by decide +kernel
theorem dX10_unlink_26 : decode cX10_unlink 26 = .ok (.putfield 33, 3) := by decide +kernel
theorem dX10_unlink_29 : decode cX10_unlink 29 = .ok (.aload_n 1, 1) := by decide +kernel
theorem dX10_unlink_30 : decode cX10_unlink 30 = .ok (.getfield 33, 3) := by decide +kernel
theorem dX10_unlink_33 : decode cX10_unlink 33 = .ok (.ifnull 14, 3) := by decide +kernel
theorem dX10_unlink_36 : decode cX10_unlink 36 = .ok (.aload_n 1, 1) := by decide +kernel
theorem dX10_unlink_37 : decode cX10_unlink 37 = .ok (.getfield 33, 3) := by decide +kernel
theorem dX10_unlink_40 : decode cX10_unlink 40 = .ok (.aload_n 1, 1) := by decide +kernel
theorem dX10_unlink_41 : decode cX10_unlink 41 = .ok (.getfield 28, 3) := by decide +kernel
theorem dX10_unlink_44 : decode cX10_unlink 44 = .ok (.putfield 28, 3) := by decide +kernel
theorem dX10_unlink_47 : decode cX10_unlink 47 = .ok (.aload_n 0, 1) := by decide +kernel
theorem dX10_unlink_48 : decode cX10_unlink 48 = .ok (.dup, 1) := by decide +kernel
theorem dX10_unlink_49 : decode cX10_unlink 49 = .ok (.getfield 13, 3) := by decide +kernel
theorem dX10_unlink_52 : decode cX10_unlink 52 = .ok (.iconst 1, 1) := by decide +kernel
theorem dX10_unlink_53 : decode cX10_unlink 53 = .ok (.isub, 1) := by decide +kernel
theorem dX10_unlink_54 : decode cX10_unlink 54 = .ok (.putfield 13, 3) := by decide +kernel
theorem dX10_unlink_57 : decode cX10_unlink 57 = .ok (.aload_n 0, 1) := by decide +kernel
theorem dX10_unlink_58 : decode cX10_unlink 58 = .ok (.dup, 1) := by decide +kernel
theorem dX10_unlink_59 : decode cX10_unlink 59 = .ok (.getfield 17, 3) := by decide +kernel
theorem dX10_unlink_62 : decode cX10_unlink 62 = .ok (.aload_n 1, 1) := by decide +kernel
theorem dX10_unlink_63 : decode cX10_unlink 63 = .ok (.getfield 36, 3) := by decide +kernel
theorem dX10_unlink_66 : decode cX10_unlink 66 = .ok (.isub, 1) := by decide +kernel
theorem dX10_unlink_67 : decode cX10_unlink 67 = .ok (.putfield 17, 3) := by decide +kernel
theorem dX10_unlink_70 : decode cX10_unlink 70 = .ok (.return_, 1) := by decide +kernel
theorem dX11_init_0 : decode cX11_init 0 = .ok (.aload_n 0, 1) := by decide +kernel
theorem dX11_init_1 : decode cX11_init 1 = .ok (.invokespecial 3, 3) := by decide +kernel
theorem dX11_init_4 : decode cX11_init 4 = .ok (.aload_n 0, 1) := by decide +kernel
theorem dX11_init_5 : decode cX11_init 5 = .ok (.new 9, 3) := by decide +kernel
theorem dX11_init_8 : decode cX11_init 8 = .ok (.dup, 1) := by decide +kernel
theorem dX11_init_9 : decode cX11_init 9 = .ok (.invokespecial 11, 3) := by decide +kernel
theorem dX11_init_12 : decode cX11_init 12 = .ok (.putfield 12, 3) := by decide +kernel
theorem dX11_init_15 : decode cX11_init 15 = .ok (.aload_n 0, 1) := by decide +kernel
theorem dX11_init_16 : decode cX11_init 16 = .ok (.new 16, 3) := by decide +kernel
theorem dX11_init_19 : decode cX11_init 19 = .ok (.dup, 1) := by decide +kernel
theorem dX11_init_20 : decode cX11_init 20 = .ok (.invokespecial 18, 3) := by decide +kernel
theorem dX11_init_23 : decode cX11_init 23 = .ok (.putfield 19, 3) := by decide +kernel
theorem dX11_init_26 : decode cX11_init 26 = .ok (.aload_n 0, 1) := by decide +kernel
theorem dX11_init_27 : decode cX11_init 27 = .ok (.new 23, 3) := by decide +kernel
theorem dX11_init_30 : decode cX11_init 30 = .ok (.dup, 1) := by decide +kernel
theorem dX11_init_31 : decode cX11_init 31 = .ok (.invokespecial 25, 3) := by decide +kernel
theorem dX11_init_34 : decode cX11_init 34 = .ok (.putfield 26, 3) := by decide +kernel
theorem dX11_init_37 : decode cX11_init 37 = .ok (.aload_n 0, 1) := by decide +kernel
theorem dX11_init_38 : decode cX11_init 38 = .ok (.new 30, 3) := by decide +kernel
theorem dX11_init_41 : decode cX11_init 41 = .ok (.dup, 1) := by decide +kernel
theorem dX11_init_42 : decode cX11_init 42 = .ok (.invokespecial 32, 3) := by decide +kernel
theorem dX11_init_45 : decode cX11_init 45 = .ok (.putfield 33, 3) := by decide +kernel
theorem dX11_init_48 : decode cX11_init 48 = .ok (.aload_n 0, 1) := by decide +kernel
theorem dX11_init_49 : decode cX11_init 49 = .ok (.new 37, 3) := by decide +kernel
theorem dX11_init_52 : decode cX11_init 52 = .ok (.dup, 1) := by decide +kernel
theorem dX11_init_53 : decode cX11_init 53 = .ok (.invokespecial 39, 3) := by decide +kernel
theorem dX11_init_56 : decode cX11_init 56 = .ok (.putfield 40, 3) := by decide +kernel
theorem dX11_init_59 : decode cX11_init 59 = .ok (.return_, 1) := by decide +kernel
theorem dX11_feed_0 : decode cX11_feed 0 = .ok (.iload_n 1, 1) := by decide +kernel
theorem dX11_feed_1 : decode cX11_feed 1 = .ok (.iconst 1, 1) := by decide +kernel
theorem dX11_feed_2 : decode cX11_feed 2 = .ok (.if_icmp .lt 9, 3) := by decide +kernel
theorem dX11_feed_5 : decode cX11_feed 5 = .ok (.iload_n 1, 1) := by decide +kernel
theorem dX11_feed_6 : decode cX11_feed 6 = .ok (.bipush 8, 2) := by decide +kernel
theorem dX11_feed_8 : decode cX11_feed 8 = .ok (.if_icmp .le 13, 3) := by decide +kernel
theorem dX11_feed_11 : decode cX11_feed 11 = .ok (.new 44, 3) := by decide +kernel
theorem dX11_feed_14 : decode cX11_feed 14 = .ok (.dup, 1) := by decide +kernel
theorem dX11_feed_15 : decode cX11_feed 15 = .ok (.ldc 46, 2) := by decide +kernel
theorem dX11_feed_17 : decode cX11_feed 17 = .ok (.invokespecial 48, 3) := by decide +kernel
theorem dX11_feed_20 : decode cX11_feed 20 = .ok (.athrow, 1) := by decide +kernel
theorem dX11_feed_21 : decode cX11_feed 21 = .ok (.aload_n 0, 1) := by decide +kernel
theorem dX11_feed_22 : decode cX11_feed 22 = .ok (.getfield 12, 3) := by decide +kernel
theorem dX11_feed_25 : decode cX11_feed 25 = .ok (.iload_n 1, 1) := by decide +kernel
theorem dX11_feed_26 : decode cX11_feed 26 = .ok (.lload_n 2, 1) := by decide +kernel
theorem dX11_feed_27 : decode cX11_feed 27 = .ok (.invokevirtual 51, 3) := by decide +kernel
theorem dX11_feed_30 : decode cX11_feed 30 = .ok (.ifCond .eq 13, 3) := by decide +kernel
theorem dX11_feed_33 : decode cX11_feed 33 = .ok (.aload_n 0, 1) := by decide +kernel
theorem dX11_feed_34 : decode cX11_feed 34 = .ok (.getfield 12, 3) := by decide +kernel
theorem dX11_feed_37 : decode cX11_feed 37 = .ok (.invokevirtual 55, 3) := by decide +kernel
theorem dX11_feed_40 : decode cX11_feed 40 = .ok (.goto 4, 3) := by decide +kernel
theorem dX11_feed_43 : decode cX11_feed 43 = .ok (.iconst (-1), 1) := by decide +kernel
theorem dX11_feed_44 : decode cX11_feed 44 = .ok (.ireturn, 1) := by decide +kernel
theorem dX11_wipe_0 : decode cX11_wipe 0 = .ok (.aload_n 0, 1) := by decide +kernel
theorem dX11_wipe_1 : decode cX11_wipe 1 = .ok (.getfield 12, 3) := by decide +kernel
theorem dX11_wipe_4 : decode cX11_wipe 4 = .ok (.invokevirtual 55, 3) := by decide +kernel
theorem dX11_wipe_7 : decode cX11_wipe 7 = .ok (.istore_n 1, 1) := by decide +kernel
theorem dX11_wipe_8 : decode cX11_wipe 8 = .ok (.aload_n 0, 1) := by decide +kernel
theorem dX11_wipe_9 : decode cX11_wipe 9 = .ok (.getfield 12, 3) := by decide +kernel
theorem dX11_wipe_12 : decode cX11_wipe 12 = .ok (.invokevirtual 59, 3) := by decide +kernel
theorem dX11_wipe_15 : decode cX11_wipe 15 = .ok (.iload_n 1, 1) := by decide +kernel
theorem dX11_wipe_16 : decode cX11_wipe 16 = .ok (.ireturn, 1) := by decide +kernel
theorem dX11_put_0 : decode cX11_put 0 = .ok (.iload_n 1, 1) := by decide +kernel
theorem dX11_put_1 : decode cX11_put 1 = .ok (.invokestatic 62, 3) := by decide +kernel
theorem dX11_put_4 : decode cX11_put 4 = .ok (.aload_n 0, 1) := by decide +kernel
theorem dX11_put_5 : decode cX11_put 5 = .ok (.getfield 19, 3) := by decide +kernel
theorem dX11_put_8 : decode cX11_put 8 = .ok (.iload_n 1, 1) := by decide +kernel
theorem dX11_put_9 : decode cX11_put 9 = .ok (.invokevirtual 66, 3) := by decide +kernel
theorem dX11_put_12 : decode cX11_put 12 = .ok (.astore_n 2, 1) := by decide +kernel
theorem dX11_put_13 : decode cX11_put 13 = .ok (.aload_n 2, 1) := by decide +kernel
theorem dX11_put_14 : decode cX11_put 14 = .ok (.ifnonnull 5, 3) := by decide +kernel
theorem dX11_put_17 : decode cX11_put 17 = .ok (.iconst (-1), 1) := by decide +kernel
theorem dX11_put_18 : decode cX11_put 18 = .ok (.ireturn, 1) := by decide +kernel
theorem dX11_put_19 : decode cX11_put 19 = .ok (.aload_n 0, 1) := by decide +kernel
theorem dX11_put_20 : decode cX11_put 20 = .ok (.getfield 19, 3) := by decide +kernel
theorem dX11_put_23 : decode cX11_put 23 = .ok (.aload_n 2, 1) := by decide +kernel
theorem dX11_put_24 : decode cX11_put 24 = .ok (.aload_n 0, 1) := by decide +kernel
theorem dX11_put_25 : decode cX11_put 25 = .ok (.getfield 12, 3) := by decide +kernel
theorem dX11_put_28 : decode cX11_put 28 = .ok (.invokevirtual 70, 3) := by decide +kernel
theorem dX11_put_31 : decode cX11_put 31 = .ok (.aload_n 2, 1) := by decide +kernel
theorem dX11_put_32 : decode cX11_put 32 = .ok (.getfield 74, 3) := by decide +kernel
theorem dX11_put_35 : decode cX11_put 35 = .ok (.ireturn, 1) := by decide +kernel
theorem dX11_drop_0 : decode cX11_drop 0 = .ok (.iload_n 1, 1) := by decide +kernel
theorem dX11_drop_1 : decode cX11_drop 1 = .ok (.invokestatic 62, 3) := by decide +kernel
theorem dX11_drop_4 : decode cX11_drop 4 = .ok (.aload_n 0, 1) := by decide +kernel
theorem dX11_drop_5 : decode cX11_drop 5 = .ok (.getfield 19, 3) := by decide +kernel
theorem dX11_drop_8 : decode cX11_drop 8 = .ok (.iload_n 1, 1) := by decide +kernel
theorem dX11_drop_9 : decode cX11_drop 9 = .ok (.invokevirtual 79, 3) := by decide +kernel
theorem dX11_drop_12 : decode cX11_drop 12 = .ok (.ireturn, 1) := by decide +kernel
theorem dX11_told_0 : decode cX11_told 0 = .ok (.iload_n 1, 1) := by decide +kernel
theorem dX11_told_1 : decode cX11_told 1 = .ok (.tableswitch 54 0 2 #[27, 35, 46], 27) := by decide +kernel
theorem dX11_told_28 : decode cX11_told 28 = .ok (.aload_n 0, 1) := by decide +kernel
theorem dX11_told_29 : decode cX11_told 29 = .ok (.getfield 19, 3) := by decide +kernel
theorem dX11_told_32 : decode cX11_told 32 = .ok (.invokevirtual 83, 3) := by decide +kernel
theorem dX11_told_35 : decode cX11_told 35 = .ok (.ireturn, 1) := by decide +kernel
theorem dX11_told_36 : decode cX11_told 36 = .ok (.aload_n 0, 1) := by decide +kernel
theorem dX11_told_37 : decode cX11_told 37 = .ok (.getfield 19, 3) := by decide +kernel
theorem dX11_told_40 : decode cX11_told 40 = .ok (.getfield 86, 3) := by decide +kernel
theorem dX11_told_43 : decode cX11_told 43 = .ok (.invokevirtual 90, 3) := by decide +kernel
theorem dX11_told_46 : decode cX11_told 46 = .ok (.ireturn, 1) := by decide +kernel
theorem dX11_told_47 : decode cX11_told 47 = .ok (.aload_n 0, 1) := by decide +kernel
theorem dX11_told_48 : decode cX11_told 48 = .ok (.getfield 19, 3) := by decide +kernel
theorem dX11_told_51 : decode cX11_told 51 = .ok (.getfield 95, 3) := by decide +kernel
theorem dX11_told_54 : decode cX11_told 54 = .ok (.ireturn, 1) := by decide +kernel
theorem dX11_told_55 : decode cX11_told 55 = .ok (.new 44, 3) := by decide +kernel
theorem dX11_told_58 : decode cX11_told 58 = .ok (.dup, 1) := by decide +kernel
theorem dX11_told_59 : decode cX11_told 59 = .ok (.ldc 98, 2) := by decide +kernel
theorem dX11_told_61 : decode cX11_told 61 = .ok (.invokespecial 48, 3) := by decide +kernel
theorem dX11_told_64 : decode cX11_told 64 = .ok (.athrow, 1) := by decide +kernel
theorem dX11_word_0 : decode cX11_word 0 = .ok (.aload_n 0, 1) := by decide +kernel
theorem dX11_word_1 : decode cX11_word 1 = .ok (.getfield 19, 3) := by decide +kernel
theorem dX11_word_4 : decode cX11_word 4 = .ok (.getfield 86, 3) := by decide +kernel
theorem dX11_word_7 : decode cX11_word 7 = .ok (.iload_n 1, 1) := by decide +kernel
theorem dX11_word_8 : decode cX11_word 8 = .ok (.invokevirtual 100, 3) := by decide +kernel
theorem dX11_word_11 : decode cX11_word 11 = .ok (.astore_n 2, 1) := by decide +kernel
theorem dX11_word_12 : decode cX11_word 12 = .ok (.aload_n 2, 1) := by decide +kernel
theorem dX11_word_13 : decode cX11_word 13 = .ok (.ifnonnull 9, 3) := by decide +kernel
theorem dX11_word_16 : decode cX11_word 16 = .ok (.ldc2_w 104, 3) := by decide +kernel
theorem dX11_word_19 : decode cX11_word 19 = .ok (.goto 10, 3) := by decide +kernel
theorem dX11_word_22 : decode cX11_word 22 = .ok (.aload_n 2, 1) := by decide +kernel
theorem dX11_word_23 : decode cX11_word 23 = .ok (.getfield 106, 3) := by decide +kernel
theorem dX11_word_26 : decode cX11_word 26 = .ok (.invokestatic 112, 3) := by decide +kernel
theorem dX11_word_29 : decode cX11_word 29 = .ok (.lreturn, 1) := by decide +kernel
theorem dX11_about_0 : decode cX11_about 0 = .ok (.iload_n 1, 1) := by decide +kernel
theorem dX11_about_1 : decode cX11_about 1 = .ok (.ifCond .lt 8, 3) := by decide +kernel
theorem dX11_about_4 : decode cX11_about 4 = .ok (.iload_n 1, 1) := by decide +kernel
theorem dX11_about_5 : decode cX11_about 5 = .ok (.iconst 2, 1) := by decide +kernel
theorem dX11_about_6 : decode cX11_about 6 = .ok (.if_icmp .le 13, 3) := by decide +kernel
theorem dX11_about_9 : decode cX11_about 9 = .ok (.new 44, 3) := by decide +kernel
theorem dX11_about_12 : decode cX11_about 12 = .ok (.dup, 1) := by decide +kernel
theorem dX11_about_13 : decode cX11_about 13 = .ok (.ldc 98, 2) := by decide +kernel
theorem dX11_about_15 : decode cX11_about 15 = .ok (.invokespecial 48, 3) := by decide +kernel
theorem dX11_about_18 : decode cX11_about 18 = .ok (.athrow, 1) := by decide +kernel
theorem dX11_about_19 : decode cX11_about 19 = .ok (.aload_n 0, 1) := by decide +kernel
theorem dX11_about_20 : decode cX11_about 20 = .ok (.getfield 12, 3) := by decide +kernel
theorem dX11_about_23 : decode cX11_about 23 = .ok (.iconst 0, 1) := by decide +kernel
theorem dX11_about_24 : decode cX11_about 24 = .ok (.invokevirtual 118, 3) := by decide +kernel
theorem dX11_about_27 : decode cX11_about 27 = .ok (.istore_n 2, 1) := by decide +kernel
theorem dX11_about_28 : decode cX11_about 28 = .ok (.iload_n 2, 1) := by decide +kernel
theorem dX11_about_29 : decode cX11_about 29 = .ok (.aload_n 0, 1) := by decide +kernel
theorem dX11_about_30 : decode cX11_about 30 = .ok (.getfield 12, 3) := by decide +kernel
theorem dX11_about_33 : decode cX11_about 33 = .ok (.invokevirtual 55, 3) := by decide +kernel
theorem dX11_about_36 : decode cX11_about 36 = .ok (.if_icmp .lt 5, 3) := by decide +kernel
theorem dX11_about_39 : decode cX11_about 39 = .ok (.iconst (-1), 1) := by decide +kernel
theorem dX11_about_40 : decode cX11_about 40 = .ok (.ireturn, 1) := by decide +kernel
theorem dX11_about_41 : decode cX11_about 41 = .ok (.aload_n 0, 1) := by decide +kernel
theorem dX11_about_42 : decode cX11_about 42 = .ok (.getfield 19, 3) := by decide +kernel
theorem dX11_about_45 : decode cX11_about 45 = .ok (.getfield 86, 3) := by decide +kernel
theorem dX11_about_48 : decode cX11_about 48 = .ok (.aload_n 0, 1) := by decide +kernel
theorem dX11_about_49 : decode cX11_about 49 = .ok (.getfield 12, 3) := by decide +kernel
theorem dX11_about_52 : decode cX11_about 52 = .ok (.iload_n 2, 1) := by decide +kernel
theorem dX11_about_53 : decode cX11_about 53 = .ok (.aload_n 0, 1) := by decide +kernel
theorem dX11_about_54 : decode cX11_about 54 = .ok (.getfield 12, 3) := by decide +kernel
theorem dX11_about_57 : decode cX11_about 57 = .ok (.iload_n 2, 1) := by decide +kernel
theorem dX11_about_58 : decode cX11_about 58 = .ok (.invokevirtual 122, 3) := by decide +kernel
theorem dX11_about_61 : decode cX11_about 61 = .ok (.invokevirtual 125, 3) := by decide +kernel
theorem dX11_about_64 : decode cX11_about 64 = .ok (.invokevirtual 129, 3) := by decide +kernel
theorem dX11_about_67 : decode cX11_about 67 = .ok (.astore_n 3, 1) := by decide +kernel
theorem dX11_about_68 : decode cX11_about 68 = .ok (.aload_n 3, 1) := by decide +kernel
theorem dX11_about_69 : decode cX11_about 69 = .ok (.ifnonnull 5, 3) := by decide +kernel
theorem dX11_about_72 : decode cX11_about 72 = .ok (.iconst 0, 1) := by decide +kernel
theorem dX11_about_73 : decode cX11_about 73 = .ok (.ireturn, 1) := by decide +kernel
theorem dX11_about_74 : decode cX11_about 74 = .ok (.iload_n 1, 1) := by decide +kernel
theorem dX11_about_75 : decode cX11_about 75 = .ok (.lookupswitch 39 #[(0, 25), (1, 30)], 25) := by decide +kernel
theorem dX11_about_100 : decode cX11_about 100 = .ok (.aload_n 3, 1) := by decide +kernel
theorem dX11_about_101 : decode cX11_about 101 = .ok (.getfield 133, 3) := by decide +kernel
theorem dX11_about_104 : decode cX11_about 104 = .ok (.ireturn, 1) := by decide +kernel
theorem dX11_about_105 : decode cX11_about 105 = .ok (.aload_n 0, 1) := by decide +kernel
theorem dX11_about_106 : decode cX11_about 106 = .ok (.getfield 19, 3) := by decide +kernel
theorem dX11_about_109 : decode cX11_about 109 = .ok (.aload_n 3, 1) := by decide +kernel
theorem dX11_about_110 : decode cX11_about 110 = .ok (.invokevirtual 136, 3) := by decide +kernel
theorem dX11_about_113 : decode cX11_about 113 = .ok (.ireturn, 1) := by decide +kernel
theorem dX11_about_114 : decode cX11_about 114 = .ok (.aload_n 3, 1) := by decide +kernel
theorem dX11_about_115 : decode cX11_about 115 = .ok (.getfield 140, 3) := by decide +kernel
theorem dX11_about_118 : decode cX11_about 118 = .ok (.ireturn, 1) := by decide +kernel
theorem dX11_find_0 : decode cX11_find 0 = .ok (.iload_n 1, 1) := by decide +kernel
theorem dX11_find_1 : decode cX11_find 1 = .ok (.invokestatic 143, 3) := by decide +kernel
theorem dX11_find_4 : decode cX11_find 4 = .ok (.aload_n 0, 1) := by decide +kernel
theorem dX11_find_5 : decode cX11_find 5 = .ok (.getfield 40, 3) := by decide +kernel
theorem dX11_find_8 : decode cX11_find 8 = .ok (.iload_n 1, 1) := by decide +kernel
theorem dX11_find_9 : decode cX11_find 9 = .ok (.invokevirtual 146, 3) := by decide +kernel
theorem dX11_find_12 : decode cX11_find 12 = .ok (.aload_n 0, 1) := by decide +kernel
theorem dX11_find_13 : decode cX11_find 13 = .ok (.getfield 26, 3) := by decide +kernel
theorem dX11_find_16 : decode cX11_find 16 = .ok (.aload_n 0, 1) := by decide +kernel
theorem dX11_find_17 : decode cX11_find 17 = .ok (.getfield 12, 3) := by decide +kernel
theorem dX11_find_20 : decode cX11_find 20 = .ok (.invokevirtual 149, 3) := by decide +kernel
theorem dX11_find_23 : decode cX11_find 23 = .ok (.aload_n 0, 1) := by decide +kernel
theorem dX11_find_24 : decode cX11_find 24 = .ok (.getfield 26, 3) := by decide +kernel
theorem dX11_find_27 : decode cX11_find 27 = .ok (.getfield 153, 3) := by decide +kernel
theorem dX11_find_30 : decode cX11_find 30 = .ok (.ifCond .eq 5, 3) := by decide +kernel
theorem dX11_find_33 : decode cX11_find 33 = .ok (.iconst (-1), 1) := by decide +kernel
theorem dX11_find_34 : decode cX11_find 34 = .ok (.ireturn, 1) := by decide +kernel
theorem dX11_find_35 : decode cX11_find 35 = .ok (.aload_n 0, 1) := by decide +kernel
theorem dX11_find_36 : decode cX11_find 36 = .ok (.getfield 33, 3) := by decide +kernel
theorem dX11_find_39 : decode cX11_find 39 = .ok (.aload_n 0, 1) := by decide +kernel
theorem dX11_find_40 : decode cX11_find 40 = .ok (.getfield 26, 3) := by decide +kernel
theorem dX11_find_43 : decode cX11_find 43 = .ok (.aload_n 0, 1) := by decide +kernel
theorem dX11_find_44 : decode cX11_find 44 = .ok (.getfield 19, 3) := by decide +kernel
theorem dX11_find_47 : decode cX11_find 47 = .ok (.aload_n 0, 1) := by decide +kernel
theorem dX11_find_48 : decode cX11_find 48 = .ok (.getfield 40, 3) := by decide +kernel
theorem dX11_find_51 : decode cX11_find 51 = .ok (.invokevirtual 156, 3) := by decide +kernel
theorem dX11_find_54 : decode cX11_find 54 = .ok (.aload_n 0, 1) := by decide +kernel
theorem dX11_find_55 : decode cX11_find 55 = .ok (.getfield 40, 3) := by decide +kernel
theorem dX11_find_58 : decode cX11_find 58 = .ok (.getfield 160, 3) := by decide +kernel
theorem dX11_find_61 : decode cX11_find 61 = .ok (.ireturn, 1) := by decide +kernel
theorem dX11_fault_0 : decode cX11_fault 0 = .ok (.aload_n 0, 1) := by decide +kernel
theorem dX11_fault_1 : decode cX11_fault 1 = .ok (.getfield 26, 3) := by decide +kernel
theorem dX11_fault_4 : decode cX11_fault 4 = .ok (.getfield 153, 3) := by decide +kernel
theorem dX11_fault_7 : decode cX11_fault 7 = .ok (.ireturn, 1) := by decide +kernel
theorem dX11_place_0 : decode cX11_place 0 = .ok (.aload_n 0, 1) := by decide +kernel
theorem dX11_place_1 : decode cX11_place 1 = .ok (.getfield 26, 3) := by decide +kernel
theorem dX11_place_4 : decode cX11_place 4 = .ok (.getfield 163, 3) := by decide +kernel
theorem dX11_place_7 : decode cX11_place 7 = .ok (.ireturn, 1) := by decide +kernel
theorem dX11_similar_0 : decode cX11_similar 0 = .ok (.iload_n 2, 1) := by decide +kernel
theorem dX11_similar_1 : decode cX11_similar 1 = .ok (.invokestatic 143, 3) := by decide +kernel
theorem dX11_similar_4 : decode cX11_similar 4 = .ok (.aload_n 0, 1) := by decide +kernel
theorem dX11_similar_5 : decode cX11_similar 5 = .ok (.getfield 19, 3) := by decide +kernel
theorem dX11_similar_8 : decode cX11_similar 8 = .ok (.iload_n 1, 1) := by decide +kernel
theorem dX11_similar_9 : decode cX11_similar 9 = .ok (.invokevirtual 166, 3) := by decide +kernel
theorem dX11_similar_12 : decode cX11_similar 12 = .ok (.astore_n 3, 1) := by decide +kernel
theorem dX11_similar_13 : decode cX11_similar 13 = .ok (.aload_n 3, 1) := by decide +kernel
theorem dX11_similar_14 : decode cX11_similar 14 = .ok (.ifnonnull 13, 3) := by decide +kernel
theorem dX11_similar_17 : decode cX11_similar 17 = .ok (.new 44, 3) := by decide +kernel
theorem dX11_similar_20 : decode cX11_similar 20 = .ok (.dup, 1) := by decide +kernel
theorem dX11_similar_21 : decode cX11_similar 21 = .ok (.ldc 169, 2) := by decide +kernel
theorem dX11_similar_23 : decode cX11_similar 23 = .ok (.invokespecial 48, 3) := by decide +kernel
theorem dX11_similar_26 : decode cX11_similar 26 = .ok (.athrow, 1) := by decide +kernel
theorem dX11_similar_27 : decode cX11_similar 27 = .ok (.aload_n 0, 1) := by decide +kernel
theorem dX11_similar_28 : decode cX11_similar 28 = .ok (.getfield 40, 3) := by decide +kernel
theorem dX11_similar_31 : decode cX11_similar 31 = .ok (.iload_n 2, 1) := by decide +kernel
theorem dX11_similar_32 : decode cX11_similar 32 = .ok (.invokevirtual 146, 3) := by decide +kernel
theorem dX11_similar_35 : decode cX11_similar 35 = .ok (.aload_n 0, 1) := by decide +kernel
theorem dX11_similar_36 : decode cX11_similar 36 = .ok (.getfield 33, 3) := by decide +kernel
theorem dX11_similar_39 : decode cX11_similar 39 = .ok (.aload_n 3, 1) := by decide +kernel
theorem dX11_similar_40 : decode cX11_similar 40 = .ok (.aload_n 0, 1) := by decide +kernel
theorem dX11_similar_41 : decode cX11_similar 41 = .ok (.getfield 19, 3) := by decide +kernel
theorem dX11_similar_44 : decode cX11_similar 44 = .ok (.aload_n 0, 1) := by decide +kernel
theorem dX11_similar_45 : decode cX11_similar 45 = .ok (.getfield 40, 3) := by decide +kernel
theorem dX11_similar_48 : decode cX11_similar 48 = .ok (.invokevirtual 171, 3) := by decide +kernel
theorem dX11_similar_51 : decode cX11_similar 51 = .ok (.aload_n 0, 1) := by decide +kernel
theorem dX11_similar_52 : decode cX11_similar 52 = .ok (.getfield 40, 3) := by decide +kernel
theorem dX11_similar_55 : decode cX11_similar 55 = .ok (.getfield 160, 3) := by decide +kernel
theorem dX11_similar_58 : decode cX11_similar 58 = .ok (.ireturn, 1) := by decide +kernel
theorem dX11_hit_0 : decode cX11_hit 0 = .ok (.aload_n 0, 1) := by decide +kernel
theorem dX11_hit_1 : decode cX11_hit 1 = .ok (.getfield 40, 3) := by decide +kernel
theorem dX11_hit_4 : decode cX11_hit 4 = .ok (.iload_n 1, 1) := by decide +kernel
theorem dX11_hit_5 : decode cX11_hit 5 = .ok (.invokevirtual 175, 3) := by decide +kernel
theorem dX11_hit_8 : decode cX11_hit 8 = .ok (.ifCond .ne 13, 3) := by decide +kernel
theorem dX11_hit_11 : decode cX11_hit 11 = .ok (.new 178, 3) := by decide +kernel
theorem dX11_hit_14 : decode cX11_hit 14 = .ok (.dup, 1) := by decide +kernel
theorem dX11_hit_15 : decode cX11_hit 15 = .ok (.ldc 180, 2) := by decide +kernel
theorem dX11_hit_17 : decode cX11_hit 17 = .ok (.invokespecial 182, 3) := by decide +kernel
theorem dX11_hit_20 : decode cX11_hit 20 = .ok (.athrow, 1) := by decide +kernel
theorem dX11_hit_21 : decode cX11_hit 21 = .ok (.aload_n 0, 1) := by decide +kernel
theorem dX11_hit_22 : decode cX11_hit 22 = .ok (.getfield 40, 3) := by decide +kernel
theorem dX11_hit_25 : decode cX11_hit 25 = .ok (.iload_n 1, 1) := by decide +kernel
theorem dX11_hit_26 : decode cX11_hit 26 = .ok (.invokevirtual 183, 3) := by decide +kernel
theorem dX11_hit_29 : decode cX11_hit 29 = .ok (.ireturn, 1) := by decide +kernel
theorem dX11_score_0 : decode cX11_score 0 = .ok (.aload_n 0, 1) := by decide +kernel
theorem dX11_score_1 : decode cX11_score 1 = .ok (.getfield 40, 3) := by decide +kernel
theorem dX11_score_4 : decode cX11_score 4 = .ok (.iload_n 1, 1) := by decide +kernel
theorem dX11_score_5 : decode cX11_score 5 = .ok (.invokevirtual 175, 3) := by decide +kernel
theorem dX11_score_8 : decode cX11_score 8 = .ok (.ifCond .ne 13, 3) := by decide +kernel
theorem dX11_score_11 : decode cX11_score 11 = .ok (.new 178, 3) := by decide +kernel
theorem dX11_score_14 : decode cX11_score 14 = .ok (.dup, 1) := by decide +kernel
theorem dX11_score_15 : decode cX11_score 15 = .ok (.ldc 180, 2) := by decide +kernel
theorem dX11_score_17 : decode cX11_score 17 = .ok (.invokespecial 182, 3) := by decide +kernel
theorem dX11_score_20 : decode cX11_score 20 = .ok (.athrow, 1) := by decide +kernel
theorem dX11_score_21 : decode cX11_score 21 = .ok (.aload_n 0, 1) := by decide +kernel
theorem dX11_score_22 : decode cX11_score 22 = .ok (.getfield 40, 3) := by decide +kernel
theorem dX11_score_25 : decode cX11_score 25 = .ok (.iload_n 1, 1) := by decide +kernel
theorem dX11_score_26 : decode cX11_score 26 = .ok (.invokevirtual 186, 3) := by decide +kernel
theorem dX11_score_29 : decode cX11_score 29 = .ok (.ireturn, 1) := by decide +kernel
theorem dX11_requireNumber_0 : decode cX11_requireNumber 0 = .ok (.iload_n 0, 1) := by decide +kernel
theorem dX11_requireNumber_1 : decode cX11_requireNumber 1 = .ok (.ifCond .lt 10, 3) := by decide +kernel
theorem dX11_requireNumber_4 : decode cX11_requireNumber 4 = .ok (.iload_n 0, 1) := by decide +kernel
theorem dX11_requireNumber_5 : decode cX11_requireNumber 5 = .ok (.sipush 9999, 3) := by decide +kernel
theorem dX11_requireNumber_8 : decode cX11_requireNumber 8 = .ok (.if_icmp .le 13, 3) := by decide +kernel
theorem dX11_requireNumber_11 : decode cX11_requireNumber 11 = .ok (.new 44, 3) := by decide +kernel
theorem dX11_requireNumber_14 : decode cX11_requireNumber 14 = .ok (.dup, 1) := by decide +kernel
theorem dX11_requireNumber_15 : decode cX11_requireNumber 15 = .ok (.ldc 189, 2) := by decide +kernel
theorem dX11_requireNumber_17 : decode cX11_requireNumber 17 = .ok (.invokespecial 48, 3) := by decide +kernel
theorem dX11_requireNumber_20 : decode cX11_requireNumber 20 = .ok (.athrow, 1) := by decide +kernel
theorem dX11_requireNumber_21 : decode cX11_requireNumber 21 = .ok (.return_, 1) := by decide +kernel
theorem dX11_requireFindable_0 : decode cX11_requireFindable 0 = .ok (.iload_n 0, 1) := by decide +kernel
theorem dX11_requireFindable_1 : decode cX11_requireFindable 1 = .ok (.iconst 1, 1) := by decide +kernel
theorem dX11_requireFindable_2 : decode cX11_requireFindable 2 = .ok (.if_icmp .lt 9, 3) := by decide +kernel
theorem dX11_requireFindable_5 : decode cX11_requireFindable 5 = .ok (.iload_n 0, 1) := by decide +kernel
theorem dX11_requireFindable_6 : decode cX11_requireFindable 6 = .ok (.bipush 50, 2) := by decide +kernel
theorem dX11_requireFindable_8 : decode cX11_requireFindable 8 = .ok (.if_icmp .le 13, 3) := by decide +kernel
theorem dX11_requireFindable_11 : decode cX11_requireFindable 11 = .ok (.new 44, 3) := by decide +kernel
theorem dX11_requireFindable_14 : decode cX11_requireFindable 14 = .ok (.dup, 1) := by decide +kernel
theorem dX11_requireFindable_15 : decode cX11_requireFindable 15 = .ok (.ldc 191, 2) := by decide +kernel
theorem dX11_requireFindable_17 : decode cX11_requireFindable 17 = .ok (.invokespecial 48, 3) := by decide +kernel
theorem dX11_requireFindable_20 : decode cX11_requireFindable 20 = .ok (.athrow, 1) := by decide +kernel
theorem dX11_requireFindable_21 : decode cX11_requireFindable 21 = .ok (.return_, 1) := by decide +kernel
theorem dX12_init_0 : decode cX12_init 0 = .ok (.aload_n 0, 1) := by decide +kernel
theorem dX12_init_1 : decode cX12_init 1 = .ok (.invokespecial 1, 3) := by decide +kernel
theorem dX12_init_4 : decode cX12_init 4 = .ok (.aload_n 0, 1) := by decide +kernel
theorem dX12_init_5 : decode cX12_init 5 = .ok (.sipush 400, 3) := by decide +kernel
theorem dX12_init_8 : decode cX12_init 8 = .ok (.newarray .int, 2) := by decide +kernel
theorem dX12_init_10 : decode cX12_init 10 = .ok (.putfield 7, 3) := by decide +kernel
theorem dX12_init_13 : decode cX12_init 13 = .ok (.aload_n 0, 1) := by decide +kernel
theorem dX12_init_14 : decode cX12_init 14 = .ok (.bipush 120, 2) := by decide +kernel
theorem dX12_init_16 : decode cX12_init 16 = .ok (.newarray .int, 2) := by decide +kernel
theorem dX12_init_18 : decode cX12_init 18 = .ok (.putfield 13, 3) := by decide +kernel
theorem dX12_init_21 : decode cX12_init 21 = .ok (.aload_n 0, 1) := by decide +kernel
theorem dX12_init_22 : decode cX12_init 22 = .ok (.bipush 120, 2) := by decide +kernel
theorem dX12_init_24 : decode cX12_init 24 = .ok (.newarray .int, 2) := by decide +kernel
theorem dX12_init_26 : decode cX12_init 26 = .ok (.putfield 16, 3) := by decide +kernel
theorem dX12_init_29 : decode cX12_init 29 = .ok (.aload_n 0, 1) := by decide +kernel
theorem dX12_init_30 : decode cX12_init 30 = .ok (.sipush 24000, 3) := by decide +kernel
theorem dX12_init_33 : decode cX12_init 33 = .ok (.newarray .long, 2) := by decide +kernel
theorem dX12_init_35 : decode cX12_init 35 = .ok (.putfield 19, 3) := by decide +kernel
theorem dX12_init_38 : decode cX12_init 38 = .ok (.aload_n 0, 1) := by decide +kernel
theorem dX12_init_39 : decode cX12_init 39 = .ok (.sipush 200, 3) := by decide +kernel
theorem dX12_init_42 : decode cX12_init 42 = .ok (.newarray .long, 2) := by decide +kernel
theorem dX12_init_44 : decode cX12_init 44 = .ok (.putfield 23, 3) := by decide +kernel
theorem dX12_init_47 : decode cX12_init 47 = .ok (.aload_n 0, 1) := by decide +kernel
theorem dX12_init_48 : decode cX12_init 48 = .ok (.sipush 200, 3) := by decide +kernel
theorem dX12_init_51 : decode cX12_init 51 = .ok (.newarray .long, 2) := by decide +kernel
theorem dX12_init_53 : decode cX12_init 53 = .ok (.putfield 26, 3) := by decide +kernel
theorem dX12_init_56 : decode cX12_init 56 = .ok (.aload_n 0, 1) := by decide +kernel
theorem dX12_init_57 : decode cX12_init 57 = .ok (.sipush 200, 3) := by decide +kernel
theorem dX12_init_60 : decode cX12_init 60 = .ok (.newarray .int, 2) := by decide +kernel
theorem dX12_init_62 : decode cX12_init 62 = .ok (.putfield 29, 3) := by decide +kernel
theorem dX12_init_65 : decode cX12_init 65 = .ok (.aload_n 0, 1) := by decide +kernel
theorem dX12_init_66 : decode cX12_init 66 = .ok (.sipush 200, 3) := by decide +kernel
theorem dX12_init_69 : decode cX12_init 69 = .ok (.newarray .boolean, 2) := by decide +kernel
theorem dX12_init_71 : decode cX12_init 71 = .ok (.putfield 32, 3) := by decide +kernel
theorem dX12_init_74 : decode cX12_init 74 = .ok (.aload_n 0, 1) := by decide +kernel
theorem dX12_init_75 : decode cX12_init 75 = .ok (.sipush 200, 3) := by decide +kernel
theorem dX12_init_78 : decode cX12_init 78 = .ok (.newarray .int, 2) := by decide +kernel
theorem dX12_init_80 : decode cX12_init 80 = .ok (.putfield 36, 3) := by decide +kernel
theorem dX12_init_83 : decode cX12_init 83 = .ok (.aload_n 0, 1) := by decide +kernel
theorem dX12_init_84 : decode cX12_init 84 = .ok (.sipush 200, 3) := by decide +kernel
theorem dX12_init_87 : decode cX12_init 87 = .ok (.newarray .int, 2) := by decide +kernel
theorem dX12_init_89 : decode cX12_init 89 = .ok (.putfield 39, 3) := by decide +kernel
theorem dX12_init_92 : decode cX12_init 92 = .ok (.aload_n 0, 1) := by decide +kernel
theorem dX12_init_93 : decode cX12_init 93 = .ok (.iconst (-1), 1) := by decide +kernel
theorem dX12_init_94 : decode cX12_init 94 = .ok (.putfield 42, 3) := by decide +kernel
theorem dX12_init_97 : decode cX12_init 97 = .ok (.aload_n 0, 1) := by decide +kernel
theorem dX12_init_98 : decode cX12_init 98 = .ok (.bipush 120, 2) := by decide +kernel
theorem dX12_init_100 : decode cX12_init 100 = .ok (.newarray .int, 2) := by decide +kernel
theorem dX12_init_102 : decode cX12_init 102 = .ok (.putfield 46, 3) := by decide +kernel
theorem dX12_init_105 : decode cX12_init 105 = .ok (.aload_n 0, 1) := by decide +kernel
theorem dX12_init_106 : decode cX12_init 106 = .ok (.bipush 50, 2) := by decide +kernel
theorem dX12_init_108 : decode cX12_init 108 = .ok (.newarray .int, 2) := by decide +kernel
theorem dX12_init_110 : decode cX12_init 110 = .ok (.putfield 49, 3) := by decide +kernel
theorem dX12_init_113 : decode cX12_init 113 = .ok (.aload_n 0, 1) := by decide +kernel
theorem dX12_init_114 : decode cX12_init 114 = .ok (.bipush 50, 2) := by decide +kernel
theorem dX12_init_116 : decode cX12_init 116 = .ok (.newarray .int, 2) := by decide +kernel
theorem dX12_init_118 : decode cX12_init 118 = .ok (.putfield 52, 3) := by decide +kernel
theorem dX12_init_121 : decode cX12_init 121 = .ok (.aload_n 0, 1) := by decide +kernel
theorem dX12_init_122 : decode cX12_init 122 = .ok (.sipush 24000, 3) := by decide +kernel
theorem dX12_init_125 : decode cX12_init 125 = .ok (.newarray .boolean, 2) := by decide +kernel
theorem dX12_init_127 : decode cX12_init 127 = .ok (.putfield 55, 3) := by decide +kernel
theorem dX12_init_130 : decode cX12_init 130 = .ok (.aload_n 0, 1) := by decide +kernel
theorem dX12_init_131 : decode cX12_init 131 = .ok (.sipush 24000, 3) := by decide +kernel
theorem dX12_init_134 : decode cX12_init 134 = .ok (.newarray .int, 2) := by decide +kernel
theorem dX12_init_136 : decode cX12_init 136 = .ok (.putfield 58, 3) := by decide +kernel
theorem dX12_init_139 : decode cX12_init 139 = .ok (.aload_n 0, 1) := by decide +kernel
theorem dX12_init_140 : decode cX12_init 140 = .ok (.ldc 61, 2) := by decide +kernel
theorem dX12_init_142 : decode cX12_init 142 = .ok (.newarray .long, 2) := by decide +kernel
theorem dX12_init_144 : decode cX12_init 144 = .ok (.putfield 62, 3) := by decide +kernel
theorem dX12_init_147 : decode cX12_init 147 = .ok (.aload_n 0, 1) := by decide +kernel
theorem dX12_init_148 : decode cX12_init 148 = .ok (.ldc 61, 2) := by decide +kernel
theorem dX12_init_150 : decode cX12_init 150 = .ok (.newarray .int, 2) := by decide +kernel
theorem dX12_init_152 : decode cX12_init 152 = .ok (.putfield 65, 3) := by decide +kernel
theorem dX12_init_155 : decode cX12_init 155 = .ok (.return_, 1) := by decide +kernel
theorem dX12_thrown_0 : decode cX12_thrown 0 = .ok (.aload_n 0, 1) := by decide +kernel
theorem dX12_thrown_1 : decode cX12_thrown 1 = .ok (.getfield 68, 3) := by decide +kernel
theorem dX12_thrown_4 : decode cX12_thrown 4 = .ok (.ireturn, 1) := by decide +kernel
theorem dX12_letterOf_0 : decode cX12_letterOf 0 = .ok (.iload_n 0, 1) := by decide +kernel
theorem dX12_letterOf_1 : decode cX12_letterOf 1 = .ok (.bipush 97, 2) := by decide +kernel
theorem dX12_letterOf_3 : decode cX12_letterOf 3 = .ok (.if_icmp .lt 16, 3) := by decide +kernel
theorem dX12_letterOf_6 : decode cX12_letterOf 6 = .ok (.iload_n 0, 1) := by decide +kernel
theorem dX12_letterOf_7 : decode cX12_letterOf 7 = .ok (.bipush 122, 2) := by decide +kernel
theorem dX12_letterOf_9 : decode cX12_letterOf 9 = .ok (.if_icmp .gt 10, 3) := by decide +kernel
theorem dX12_letterOf_12 : decode cX12_letterOf 12 = .ok (.iload_n 0, 1) := by decide +kernel
theorem dX12_letterOf_13 : decode cX12_letterOf 13 = .ok (.bipush 96, 2) := by decide +kernel
theorem dX12_letterOf_15 : decode cX12_letterOf 15 = .ok (.isub, 1) := by decide +kernel
theorem dX12_letterOf_16 : decode cX12_letterOf 16 = .ok (.goto 23, 3) := by decide +kernel
theorem dX12_letterOf_19 : decode cX12_letterOf 19 = .ok (.iload_n 0, 1) := by decide +kernel
theorem dX12_letterOf_20 : decode cX12_letterOf 20 = .ok (.bipush 65, 2) := by decide +kernel
theorem dX12_letterOf_22 : decode cX12_letterOf 22 = .ok (.if_icmp .lt 16, 3) := by decide +kernel
theorem dX12_letterOf_25 : decode cX12_letterOf 25 = .ok (.iload_n 0, 1) := by decide +kernel
theorem dX12_letterOf_26 : decode cX12_letterOf 26 = .ok (.bipush 90, 2) := by decide +kernel
theorem dX12_letterOf_28 : decode cX12_letterOf 28 = .ok (.if_icmp .gt 10, 3) := by decide +kernel
theorem dX12_letterOf_31 : decode cX12_letterOf 31 = .ok (.iload_n 0, 1) := by decide +kernel
theorem dX12_letterOf_32 : decode cX12_letterOf 32 = .ok (.bipush 64, 2) := by decide +kernel
theorem dX12_letterOf_34 : decode cX12_letterOf 34 = .ok (.isub, 1) := by decide +kernel
theorem dX12_letterOf_35 : decode cX12_letterOf 35 = .ok (.goto 4, 3) := by decide +kernel
theorem dX12_letterOf_38 : decode cX12_letterOf 38 = .ok (.iconst 0, 1) := by decide +kernel
theorem dX12_letterOf_39 : decode cX12_letterOf 39 = .ok (.ireturn, 1) := by decide +kernel
theorem dX12_with_0 : decode cX12_with 0 = .ok (.lload_n 0, 1) := by decide +kernel
theorem dX12_with_1 : decode cX12_with 1 = .ok (.iload_n 3, 1) := by decide +kernel
theorem dX12_with_2 : decode cX12_with 2 = .ok (.i2l, 1) := by decide +kernel
theorem dX12_with_3 : decode cX12_with 3 = .ok (.bipush 55, 2) := by decide +kernel
theorem dX12_with_5 : decode cX12_with 5 = .ok (.iconst 5, 1) := by decide +kernel
theorem dX12_with_6 : decode cX12_with 6 = .ok (.iload_n 2, 1) := by decide +kernel
theorem dX12_with_7 : decode cX12_with 7 = .ok (.imul, 1) := by decide +kernel
theorem dX12_with_8 : decode cX12_with 8 = .ok (.isub, 1) := by decide +kernel
theorem dX12_with_9 : decode cX12_with 9 = .ok (.lshl, 1) := by decide +kernel
theorem dX12_with_10 : decode cX12_with 10 = .ok (.lor, 1) := by decide +kernel
theorem dX12_with_11 : decode cX12_with 11 = .ok (.lreturn, 1) := by decide +kernel
theorem dX12_begins_0 : decode cX12_begins 0 = .ok (.iload 4, 2) := by decide +kernel
theorem dX12_begins_2 : decode cX12_begins 2 = .ok (.ifCond .eq 19, 3) := by decide +kernel
theorem dX12_begins_5 : decode cX12_begins 5 = .ok (.lload_n 0, 1) := by decide +kernel
theorem dX12_begins_6 : decode cX12_begins 6 = .ok (.lload_n 2, 1) := by decide +kernel
theorem dX12_begins_7 : decode cX12_begins 7 = .ok (.lxor, 1) := by decide +kernel
theorem dX12_begins_8 : decode cX12_begins 8 = .ok (.bipush 60, 2) := by decide +kernel
theorem dX12_begins_10 : decode cX12_begins 10 = .ok (.iconst 5, 1) := by decide +kernel
theorem dX12_begins_11 : decode cX12_begins 11 = .ok (.iload 4, 2) := by decide +kernel
theorem dX12_begins_13 : decode cX12_begins 13 = .ok (.imul, 1) := by decide +kernel
theorem dX12_begins_14 : decode cX12_begins 14 = .ok (.isub, 1) := by decide +kernel
theorem dX12_begins_15 : decode cX12_begins 15 = .ok (.lshr, 1) := by decide +kernel
theorem dX12_begins_16 : decode cX12_begins 16 = .ok (.lconst 0, 1) := by decide +kernel
theorem dX12_begins_17 : decode cX12_begins 17 = .ok (.lcmp, 1) := by decide +kernel
theorem dX12_begins_18 : decode cX12_begins 18 = .ok (.ifCond .ne 7, 3) := by decide +kernel
theorem dX12_begins_21 : decode cX12_begins 21 = .ok (.iconst 1, 1) := by decide +kernel
theorem dX12_begins_22 : decode cX12_begins 22 = .ok (.goto 4, 3) := by decide +kernel
theorem dX12_begins_25 : decode cX12_begins 25 = .ok (.iconst 0, 1) := by decide +kernel
theorem dX12_begins_26 : decode cX12_begins 26 = .ok (.ireturn, 1) := by decide +kernel
theorem dX12_readWords_0 : decode cX12_readWords 0 = .ok (.aload_n 0, 1) := by decide +kernel
theorem dX12_readWords_1 : decode cX12_readWords 1 = .ok (.iconst 0, 1) := by decide +kernel
theorem dX12_readWords_2 : decode cX12_readWords 2 = .ok (.putfield 71, 3) := by decide +kernel
theorem dX12_readWords_5 : decode cX12_readWords 5 = .ok (.lconst 0, 1) := by decide +kernel
theorem dX12_readWords_6 : decode cX12_readWords 6 = .ok (.lstore_n 1, 1) := by decide +kernel
theorem dX12_readWords_7 : decode cX12_readWords 7 = .ok (.iconst 0, 1) := by decide +kernel
theorem dX12_readWords_8 : decode cX12_readWords 8 = .ok (.istore_n 3, 1) := by decide +kernel
theorem dX12_readWords_9 : decode cX12_readWords 9 = .ok (.iconst 0, 1) := by decide +kernel
theorem dX12_readWords_10 : decode cX12_readWords 10 = .ok (.istore 4, 2) := by decide +kernel
theorem dX12_readWords_12 : decode cX12_readWords 12 = .ok (.iload 4, 2) := by decide +kernel
theorem dX12_readWords_14 : decode cX12_readWords 14 = .ok (.aload_n 0, 1) := by decide +kernel
theorem dX12_readWords_15 : decode cX12_readWords 15 = .ok (.getfield 74, 3) := by decide +kernel
theorem dX12_readWords_18 : decode cX12_readWords 18 = .ok (.if_icmp .gt 91, 3) := by decide +kernel
theorem dX12_readWords_21 : decode cX12_readWords 21 = .ok (.iload 4, 2) := by decide +kernel
theorem dX12_readWords_23 : decode cX12_readWords 23 = .ok (.aload_n 0, 1) := by decide +kernel
theorem dX12_readWords_24 : decode cX12_readWords 24 = .ok (.getfield 74, 3) := by decide +kernel
theorem dX12_readWords_27 : decode cX12_readWords 27 = .ok (.if_icmp .ge 16, 3) := by decide +kernel
theorem dX12_readWords_30 : decode cX12_readWords 30 = .ok (.aload_n 0, 1) := by decide +kernel
theorem dX12_readWords_31 : decode cX12_readWords 31 = .ok (.getfield 7, 3) := by decide +kernel
theorem dX12_readWords_34 : decode cX12_readWords 34 = .ok (.iload 4, 2) := by decide +kernel
theorem dX12_readWords_36 : decode cX12_readWords 36 = .ok (.iaload, 1) := by decide +kernel
theorem dX12_readWords_37 : decode cX12_readWords 37 = .ok (.invokestatic 77, 3) := by decide +kernel
theorem dX12_readWords_40 : decode cX12_readWords 40 = .ok (.goto 4, 3) := by decide +kernel
theorem dX12_readWords_43 : decode cX12_readWords 43 = .ok (.iconst 0, 1) := by decide +kernel
theorem dX12_readWords_44 : decode cX12_readWords 44 = .ok (.istore 5, 2) := by decide +kernel
theorem dX12_readWords_46 : decode cX12_readWords 46 = .ok (.iload 5, 2) := by decide +kernel
theorem dX12_readWords_48 : decode cX12_readWords 48 = .ok (.ifCond .le 27, 3) := by decide +kernel
theorem dX12_readWords_51 : decode cX12_readWords 51 = .ok (.iload_n 3, 1) := by decide +kernel
theorem dX12_readWords_52 : decode cX12_readWords 52 = .ok (.bipush 12, 2) := by decide +kernel
theorem dX12_readWords_54 : decode cX12_readWords 54 = .ok (.if_icmp .ge 13, 3) := by decide +kernel
theorem dX12_readWords_57 : decode cX12_readWords 57 = .ok (.lload_n 1, 1) := by decide +kernel
theorem dX12_readWords_58 : decode cX12_readWords 58 = .ok (.iload_n 3, 1) := by decide +kernel
theorem dX12_readWords_59 : decode cX12_readWords 59 = .ok (.iload 5, 2) := by decide +kernel
theorem dX12_readWords_61 : decode cX12_readWords 61 = .ok (.invokestatic 81, 3) := by decide +kernel
theorem dX12_readWords_64 : decode cX12_readWords 64 = .ok (.goto 4, 3) := by decide +kernel
theorem dX12_readWords_67 : decode cX12_readWords 67 = .ok (.lload_n 1, 1) := by decide +kernel
theorem dX12_readWords_68 : decode cX12_readWords 68 = .ok (.lstore_n 1, 1) := by decide +kernel
theorem dX12_readWords_69 : decode cX12_readWords 69 = .ok (.iinc 3 1, 3) := by decide +kernel
theorem dX12_readWords_72 : decode cX12_readWords 72 = .ok (.goto 31, 3) := by decide +kernel
theorem dX12_readWords_75 : decode cX12_readWords 75 = .ok (.iload_n 3, 1) := by decide +kernel
theorem dX12_readWords_76 : decode cX12_readWords 76 = .ok (.ifCond .le 27, 3) := by decide +kernel
theorem dX12_readWords_79 : decode cX12_readWords 79 = .ok (.aload_n 0, 1) := by decide +kernel
theorem dX12_readWords_80 : decode cX12_readWords 80 = .ok (.getfield 23, 3) := by decide +kernel
theorem dX12_readWords_83 : decode cX12_readWords 83 = .ok (.aload_n 0, 1) := by decide +kernel
theorem dX12_readWords_84 : decode cX12_readWords 84 = .ok (.getfield 71, 3) := by decide +kernel
theorem dX12_readWords_87 : decode cX12_readWords 87 = .ok (.lload_n 1, 1) := by decide +kernel
theorem dX12_readWords_88 : decode cX12_readWords 88 = .ok (.lastore, 1) := by decide +kernel
theorem dX12_readWords_89 : decode cX12_readWords 89 = .ok (.aload_n 0, 1) := by decide +kernel
theorem dX12_readWords_90 : decode cX12_readWords 90 = .ok (.dup, 1) := by decide +kernel
theorem dX12_readWords_91 : decode cX12_readWords 91 = .ok (.getfield 71, 3) := by decide +kernel
theorem dX12_readWords_94 : decode cX12_readWords 94 = .ok (.iconst 1, 1) := by decide +kernel
theorem dX12_readWords_95 : decode cX12_readWords 95 = .ok (.iadd, 1) := by decide +kernel
theorem dX12_readWords_96 : decode cX12_readWords 96 = .ok (.putfield 71, 3) := by decide +kernel
theorem dX12_readWords_99 : decode cX12_readWords 99 = .ok (.lconst 0, 1) := by decide +kernel
theorem dX12_readWords_100 : decode cX12_readWords 100 = .ok (.lstore_n 1, 1) := by decide +kernel
theorem dX12_readWords_101 : decode cX12_readWords 101 = .ok (.iconst 0, 1) := by decide +kernel
theorem dX12_readWords_102 : decode cX12_readWords 102 = .ok (.istore_n 3, 1) := by decide +kernel
theorem dX12_readWords_103 : decode cX12_readWords 103 = .ok (.iinc 4 1, 3) := by decide +kernel
theorem dX12_readWords_106 : decode cX12_readWords 106 = .ok (.goto (-94), 3) := by decide +kernel
theorem dX12_readWords_109 : decode cX12_readWords 109 = .ok (.return_, 1) := by decide +kernel
theorem dX12_placeOf_0 : decode cX12_placeOf 0 = .ok (.iconst (-1), 1) := by decide +kernel
theorem dX12_placeOf_1 : decode cX12_placeOf 1 = .ok (.istore_n 2, 1) := by decide +kernel
theorem dX12_placeOf_2 : decode cX12_placeOf 2 = .ok (.iconst 0, 1) := by decide +kernel
theorem dX12_placeOf_3 : decode cX12_placeOf 3 = .ok (.istore_n 3, 1) := by decide +kernel
theorem dX12_placeOf_4 : decode cX12_placeOf 4 = .ok (.iload_n 3, 1) := by decide +kernel
theorem dX12_placeOf_5 : decode cX12_placeOf 5 = .ok (.aload_n 0, 1) := by decide +kernel
theorem dX12_placeOf_6 : decode cX12_placeOf 6 = .ok (.getfield 85, 3) := by decide +kernel
theorem dX12_placeOf_9 : decode cX12_placeOf 9 = .ok (.if_icmp .ge 25, 3) := by decide +kernel
theorem dX12_placeOf_12 : decode cX12_placeOf 12 = .ok (.aload_n 0, 1) := by decide +kernel
theorem dX12_placeOf_13 : decode cX12_placeOf 13 = .ok (.getfield 13, 3) := by decide +kernel
theorem dX12_placeOf_16 : decode cX12_placeOf 16 = .ok (.iload_n 3, 1) := by decide +kernel
theorem dX12_placeOf_17 : decode cX12_placeOf 17 = .ok (.iaload, 1) := by decide +kernel
theorem dX12_placeOf_18 : decode cX12_placeOf 18 = .ok (.iload_n 1, 1) := by decide +kernel
theorem dX12_placeOf_19 : decode cX12_placeOf 19 = .ok (.if_icmp .ne 7, 3) := by decide +kernel
theorem dX12_placeOf_22 : decode cX12_placeOf 22 = .ok (.iload_n 3, 1) := by decide +kernel
theorem dX12_placeOf_23 : decode cX12_placeOf 23 = .ok (.goto 4, 3) := by decide +kernel
theorem dX12_placeOf_26 : decode cX12_placeOf 26 = .ok (.iload_n 2, 1) := by decide +kernel
theorem dX12_placeOf_27 : decode cX12_placeOf 27 = .ok (.istore_n 2, 1) := by decide +kernel
theorem dX12_placeOf_28 : decode cX12_placeOf 28 = .ok (.iinc 3 1, 3) := by decide +kernel
theorem dX12_placeOf_31 : decode cX12_placeOf 31 = .ok (.goto (-27), 3) := by decide +kernel
theorem dX12_placeOf_34 : decode cX12_placeOf 34 = .ok (.iload_n 2, 1) := by decide +kernel
theorem dX12_placeOf_35 : decode cX12_placeOf 35 = .ok (.ireturn, 1) := by decide +kernel
theorem dX12_times_0 : decode cX12_times 0 = .ok (.iconst 0, 1) := by decide +kernel
theorem dX12_times_1 : decode cX12_times 1 = .ok (.istore 4, 2) := by decide +kernel
theorem dX12_times_3 : decode cX12_times 3 = .ok (.sipush 200, 3) := by decide +kernel
theorem dX12_times_6 : decode cX12_times 6 = .ok (.iload_n 1, 1) := by decide +kernel
theorem dX12_times_7 : decode cX12_times 7 = .ok (.imul, 1) := by decide +kernel
theorem dX12_times_8 : decode cX12_times 8 = .ok (.istore 5, 2) := by decide +kernel
theorem dX12_times_10 : decode cX12_times 10 = .ok (.iload 5, 2) := by decide +kernel
theorem dX12_times_12 : decode cX12_times 12 = .ok (.sipush 200, 3) := by decide +kernel
theorem dX12_times_15 : decode cX12_times 15 = .ok (.iload_n 1, 1) := by decide +kernel
theorem dX12_times_16 : decode cX12_times 16 = .ok (.imul, 1) := by decide +kernel
theorem dX12_times_17 : decode cX12_times 17 = .ok (.aload_n 0, 1) := by decide +kernel
theorem dX12_times_18 : decode cX12_times 18 = .ok (.getfield 16, 3) := by decide +kernel
theorem dX12_times_21 : decode cX12_times 21 = .ok (.iload_n 1, 1) := by decide +kernel
theorem dX12_times_22 : decode cX12_times 22 = .ok (.iaload, 1) := by decide +kernel
theorem dX12_times_23 : decode cX12_times 23 = .ok (.iadd, 1) := by decide +kernel
theorem dX12_times_24 : decode cX12_times 24 = .ok (.if_icmp .ge 32, 3) := by decide +kernel
theorem dX12_times_27 : decode cX12_times 27 = .ok (.aload_n 0, 1) := by decide +kernel
theorem dX12_times_28 : decode cX12_times 28 = .ok (.getfield 19, 3) := by decide +kernel
theorem dX12_times_31 : decode cX12_times 31 = .ok (.iload 5, 2) := by decide +kernel
theorem dX12_times_33 : decode cX12_times 33 = .ok (.laload, 1) := by decide +kernel
theorem dX12_times_34 : decode cX12_times 34 = .ok (.lload_n 2, 1) := by decide +kernel
theorem dX12_times_35 : decode cX12_times 35 = .ok (.lcmp, 1) := by decide +kernel
theorem dX12_times_36 : decode cX12_times 36 = .ok (.ifCond .ne 10, 3) := by decide +kernel
theorem dX12_times_39 : decode cX12_times 39 = .ok (.iload 4, 2) := by decide +kernel
theorem dX12_times_41 : decode cX12_times 41 = .ok (.iconst 1, 1) := by decide +kernel
theorem dX12_times_42 : decode cX12_times 42 = .ok (.iadd, 1) := by decide +kernel
theorem dX12_times_43 : decode cX12_times 43 = .ok (.goto 5, 3) := by decide +kernel
theorem dX12_times_46 : decode cX12_times 46 = .ok (.iload 4, 2) := by decide +kernel
theorem dX12_times_48 : decode cX12_times 48 = .ok (.istore 4, 2) := by decide +kernel
theorem dX12_times_50 : decode cX12_times 50 = .ok (.iinc 5 1, 3) := by decide +kernel
theorem dX12_times_53 : decode cX12_times 53 = .ok (.goto (-43), 3) := by decide +kernel
theorem dX12_times_56 : decode cX12_times 56 = .ok (.iload 4, 2) := by decide +kernel
theorem dX12_times_58 : decode cX12_times 58 = .ok (.ireturn, 1) := by decide +kernel
theorem dX12_impact_0 : decode cX12_impact 0 = .ok (.aload_n 0, 1) := by decide +kernel
theorem dX12_impact_1 : decode cX12_impact 1 = .ok (.iload_n 1, 1) := by decide +kernel
theorem dX12_impact_2 : decode cX12_impact 2 = .ok (.lload_n 2, 1) := by decide +kernel
theorem dX12_impact_3 : decode cX12_impact 3 = .ok (.invokevirtual 88, 3) := by decide +kernel
theorem dX12_impact_6 : decode cX12_impact 6 = .ok (.istore 4, 2) := by decide +kernel
theorem dX12_impact_8 : decode cX12_impact 8 = .ok (.sipush 256, 3) := by decide +kernel
theorem dX12_impact_11 : decode cX12_impact 11 = .ok (.iload 4, 2) := by decide +kernel
theorem dX12_impact_13 : decode cX12_impact 13 = .ok (.imul, 1) := by decide +kernel
theorem dX12_impact_14 : decode cX12_impact 14 = .ok (.iload 4, 2) := by decide +kernel
theorem dX12_impact_16 : decode cX12_impact 16 = .ok (.iconst 1, 1) := by decide +kernel
theorem dX12_impact_17 : decode cX12_impact 17 = .ok (.iadd, 1) := by decide +kernel
theorem dX12_impact_18 : decode cX12_impact 18 = .ok (.aload_n 0, 1) := by decide +kernel
theorem dX12_impact_19 : decode cX12_impact 19 = .ok (.getfield 16, 3) := by decide +kernel
theorem dX12_impact_22 : decode cX12_impact 22 = .ok (.iload_n 1, 1) := by decide +kernel
theorem dX12_impact_23 : decode cX12_impact 23 = .ok (.iaload, 1) := by decide +kernel
theorem dX12_impact_24 : decode cX12_impact 24 = .ok (.bipush 8, 2) := by decide +kernel
theorem dX12_impact_26 : decode cX12_impact 26 = .ok (.idiv, 1) := by decide +kernel
theorem dX12_impact_27 : decode cX12_impact 27 = .ok (.iadd, 1) := by decide +kernel
theorem dX12_impact_28 : decode cX12_impact 28 = .ok (.idiv, 1) := by decide +kernel
theorem dX12_impact_29 : decode cX12_impact 29 = .ok (.ireturn, 1) := by decide +kernel
theorem dX12_spot_0 : decode cX12_spot 0 = .ok (.lload_n 1, 1) := by decide +kernel
theorem dX12_spot_1 : decode cX12_spot 1 = .ok (.lload_n 1, 1) := by decide +kernel
theorem dX12_spot_2 : decode cX12_spot 2 = .ok (.bipush 17, 2) := by decide +kernel
theorem dX12_spot_4 : decode cX12_spot 4 = .ok (.lushr, 1) := by decide +kernel
theorem dX12_spot_5 : decode cX12_spot 5 = .ok (.lxor, 1) := by decide +kernel
theorem dX12_spot_6 : decode cX12_spot 6 = .ok (.lload_n 1, 1) := by decide +kernel
theorem dX12_spot_7 : decode cX12_spot 7 = .ok (.bipush 37, 2) := by decide +kernel
theorem dX12_spot_9 : decode cX12_spot 9 = .ok (.lushr, 1) := by decide +kernel
theorem dX12_spot_10 : decode cX12_spot 10 = .ok (.lxor, 1) := by decide +kernel
theorem dX12_spot_11 : decode cX12_spot 11 = .ok (.ldc2_w 92, 3) := by decide +kernel
theorem dX12_spot_14 : decode cX12_spot 14 = .ok (.land, 1) := by decide +kernel
theorem dX12_spot_15 : decode cX12_spot 15 = .ok (.l2i, 1) := by decide +kernel
theorem dX12_spot_16 : decode cX12_spot 16 = .ok (.istore_n 3, 1) := by decide +kernel
theorem dX12_spot_17 : decode cX12_spot 17 = .ok (.aload_n 0, 1) := by decide +kernel
theorem dX12_spot_18 : decode cX12_spot 18 = .ok (.getfield 65, 3) := by decide +kernel
theorem dX12_spot_21 : decode cX12_spot 21 = .ok (.iload_n 3, 1) := by decide +kernel
theorem dX12_spot_22 : decode cX12_spot 22 = .ok (.iaload, 1) := by decide +kernel
theorem dX12_spot_23 : decode cX12_spot 23 = .ok (.ifCond .le 25, 3) := by decide +kernel
theorem dX12_spot_26 : decode cX12_spot 26 = .ok (.aload_n 0, 1) := by decide +kernel
theorem dX12_spot_27 : decode cX12_spot 27 = .ok (.getfield 62, 3) := by decide +kernel
theorem dX12_spot_30 : decode cX12_spot 30 = .ok (.iload_n 3, 1) := by decide +kernel
theorem dX12_spot_31 : decode cX12_spot 31 = .ok (.laload, 1) := by decide +kernel
theorem dX12_spot_32 : decode cX12_spot 32 = .ok (.lload_n 1, 1) := by decide +kernel
theorem dX12_spot_33 : decode cX12_spot 33 = .ok (.lcmp, 1) := by decide +kernel
theorem dX12_spot_34 : decode cX12_spot 34 = .ok (.ifCond .eq 14, 3) := by decide +kernel
theorem dX12_spot_37 : decode cX12_spot 37 = .ok (.iload_n 3, 1) := by decide +kernel
theorem dX12_spot_38 : decode cX12_spot 38 = .ok (.iconst 1, 1) := by decide +kernel
theorem dX12_spot_39 : decode cX12_spot 39 = .ok (.iadd, 1) := by decide +kernel
theorem dX12_spot_40 : decode cX12_spot 40 = .ok (.sipush 32767, 3) := by decide +kernel
theorem dX12_spot_43 : decode cX12_spot 43 = .ok (.iand, 1) := by decide +kernel
theorem dX12_spot_44 : decode cX12_spot 44 = .ok (.istore_n 3, 1) := by decide +kernel
theorem dX12_spot_45 : decode cX12_spot 45 = .ok (.goto (-28), 3) := by decide +kernel
theorem dX12_spot_48 : decode cX12_spot 48 = .ok (.iload_n 3, 1) := by decide +kernel
theorem dX12_spot_49 : decode cX12_spot 49 = .ok (.ireturn, 1) := by decide +kernel
theorem dX12_know_0 : decode cX12_know 0 = .ok (.aload_n 0, 1) := by decide +kernel
theorem dX12_know_1 : decode cX12_know 1 = .ok (.getfield 94, 3) := by decide +kernel
theorem dX12_know_4 : decode cX12_know 4 = .ok (.ifCond .eq 4, 3) := by decide +kernel
theorem dX12_know_7 : decode cX12_know 7 = .ok (.return_, 1) := by decide +kernel
theorem dX12_know_8 : decode cX12_know 8 = .ok (.aload_n 0, 1) := by decide +kernel
theorem dX12_know_9 : decode cX12_know 9 = .ok (.iconst 1, 1) := by decide +kernel
theorem dX12_know_10 : decode cX12_know 10 = .ok (.putfield 94, 3) := by decide +kernel
theorem dX12_know_13 : decode cX12_know 13 = .ok (.iconst 0, 1) := by decide +kernel
theorem dX12_know_14 : decode cX12_know 14 = .ok (.istore_n 1, 1) := by decide +kernel
theorem dX12_know_15 : decode cX12_know 15 = .ok (.iload_n 1, 1) := by decide +kernel
theorem dX12_know_16 : decode cX12_know 16 = .ok (.ldc 61, 2) := by decide +kernel
theorem dX12_know_18 : decode cX12_know 18 = .ok (.if_icmp .ge 16, 3) := by decide +kernel
theorem dX12_know_21 : decode cX12_know 21 = .ok (.aload_n 0, 1) := by decide +kernel
theorem dX12_know_22 : decode cX12_know 22 = .ok (.getfield 65, 3) := by decide +kernel
theorem dX12_know_25 : decode cX12_know 25 = .ok (.iload_n 1, 1) := by decide +kernel
theorem dX12_know_26 : decode cX12_know 26 = .ok (.iconst 0, 1) := by decide +kernel
theorem dX12_know_27 : decode cX12_know 27 = .ok (.iastore, 1) := by decide +kernel
theorem dX12_know_28 : decode cX12_know 28 = .ok (.iinc 1 1, 3) := by decide +kernel
theorem dX12_know_31 : decode cX12_know 31 = .ok (.goto (-16), 3) := by decide +kernel
theorem dX12_know_34 : decode cX12_know 34 = .ok (.iconst 0, 1) := by decide +kernel
theorem dX12_know_35 : decode cX12_know 35 = .ok (.istore_n 1, 1) := by decide +kernel
theorem dX12_know_36 : decode cX12_know 36 = .ok (.iload_n 1, 1) := by decide +kernel
theorem dX12_know_37 : decode cX12_know 37 = .ok (.aload_n 0, 1) := by decide +kernel
theorem dX12_know_38 : decode cX12_know 38 = .ok (.getfield 85, 3) := by decide +kernel
theorem dX12_know_41 : decode cX12_know 41 = .ok (.if_icmp .ge 92, 3) := by decide +kernel
theorem dX12_know_44 : decode cX12_know 44 = .ok (.iconst 0, 1) := by decide +kernel
theorem dX12_know_45 : decode cX12_know 45 = .ok (.istore_n 2, 1) := by decide +kernel
theorem dX12_know_46 : decode cX12_know 46 = .ok (.iload_n 2, 1) := by decide +kernel
theorem dX12_know_47 : decode cX12_know 47 = .ok (.aload_n 0, 1) := by decide +kernel
theorem dX12_know_48 : decode cX12_know 48 = .ok (.getfield 16, 3) := by decide +kernel
theorem dX12_know_51 : decode cX12_know 51 = .ok (.iload_n 1, 1) := by decide +kernel
theorem dX12_know_52 : decode cX12_know 52 = .ok (.iaload, 1) := by decide +kernel
theorem dX12_know_53 : decode cX12_know 53 = .ok (.if_icmp .ge 74, 3) := by decide +kernel
theorem dX12_know_56 : decode cX12_know 56 = .ok (.sipush 200, 3) := by decide +kernel
theorem dX12_know_59 : decode cX12_know 59 = .ok (.iload_n 1, 1) := by decide +kernel
theorem dX12_know_60 : decode cX12_know 60 = .ok (.imul, 1) := by decide +kernel
theorem dX12_know_61 : decode cX12_know 61 = .ok (.iload_n 2, 1) := by decide +kernel
theorem dX12_know_62 : decode cX12_know 62 = .ok (.iadd, 1) := by decide +kernel
theorem dX12_know_63 : decode cX12_know 63 = .ok (.istore_n 3, 1) := by decide +kernel
theorem dX12_know_64 : decode cX12_know 64 = .ok (.aload_n 0, 1) := by decide +kernel
theorem dX12_know_65 : decode cX12_know 65 = .ok (.getfield 55, 3) := by decide +kernel
theorem dX12_know_68 : decode cX12_know 68 = .ok (.iload_n 3, 1) := by decide +kernel
theorem dX12_know_69 : decode cX12_know 69 = .ok (.aload_n 0, 1) := by decide +kernel
theorem dX12_know_70 : decode cX12_know 70 = .ok (.iload_n 1, 1) := by decide +kernel
theorem dX12_know_71 : decode cX12_know 71 = .ok (.iload_n 2, 1) := by decide +kernel
theorem dX12_know_72 : decode cX12_know 72 = .ok (.invokevirtual 98, 3) := by decide +kernel
theorem dX12_know_75 : decode cX12_know 75 = .ok (.bastore, 1) := by decide +kernel
theorem dX12_know_76 : decode cX12_know 76 = .ok (.aload_n 0, 1) := by decide +kernel
theorem dX12_know_77 : decode cX12_know 77 = .ok (.getfield 55, 3) := by decide +kernel
theorem dX12_know_80 : decode cX12_know 80 = .ok (.iload_n 3, 1) := by decide +kernel
theorem dX12_know_81 : decode cX12_know 81 = .ok (.baload, 1) := by decide +kernel
theorem dX12_know_82 : decode cX12_know 82 = .ok (.ifCond .eq 39, 3) := by decide +kernel
theorem dX12_know_85 : decode cX12_know 85 = .ok (.aload_n 0, 1) := by decide +kernel
theorem dX12_know_86 : decode cX12_know 86 = .ok (.aload_n 0, 1) := by decide +kernel
theorem dX12_know_87 : decode cX12_know 87 = .ok (.getfield 19, 3) := by decide +kernel
theorem dX12_know_90 : decode cX12_know 90 = .ok (.iload_n 3, 1) := by decide +kernel
theorem dX12_know_91 : decode cX12_know 91 = .ok (.laload, 1) := by decide +kernel
theorem dX12_know_92 : decode cX12_know 92 = .ok (.invokevirtual 102, 3) := by decide +kernel
theorem dX12_know_95 : decode cX12_know 95 = .ok (.istore 4, 2) := by decide +kernel
theorem dX12_know_97 : decode cX12_know 97 = .ok (.aload_n 0, 1) := by decide +kernel
theorem dX12_know_98 : decode cX12_know 98 = .ok (.getfield 62, 3) := by decide +kernel
theorem dX12_know_101 : decode cX12_know 101 = .ok (.iload 4, 2) := by decide +kernel
theorem dX12_know_103 : decode cX12_know 103 = .ok (.aload_n 0, 1) := by decide +kernel
theorem dX12_know_104 : decode cX12_know 104 = .ok (.getfield 19, 3) := by decide +kernel
theorem dX12_know_107 : decode cX12_know 107 = .ok (.iload_n 3, 1) := by decide +kernel
theorem dX12_know_108 : decode cX12_know 108 = .ok (.laload, 1) := by decide +kernel
theorem dX12_know_109 : decode cX12_know 109 = .ok (.lastore, 1) := by decide +kernel
theorem dX12_know_110 : decode cX12_know 110 = .ok (.aload_n 0, 1) := by decide +kernel
theorem dX12_know_111 : decode cX12_know 111 = .ok (.getfield 65, 3) := by decide +kernel
theorem dX12_know_114 : decode cX12_know 114 = .ok (.iload 4, 2) := by decide +kernel
theorem dX12_know_116 : decode cX12_know 116 = .ok (.dup2, 1) := by decide +kernel
theorem dX12_know_117 : decode cX12_know 117 = .ok (.iaload, 1) := by decide +kernel
theorem dX12_know_118 : decode cX12_know 118 = .ok (.iconst 1, 1) := by decide +kernel
theorem dX12_know_119 : decode cX12_know 119 = .ok (.iadd, 1) := by decide +kernel
theorem dX12_know_120 : decode cX12_know 120 = .ok (.iastore, 1) := by decide +kernel
theorem dX12_know_121 : decode cX12_know 121 = .ok (.iinc 2 1, 3) := by decide +kernel
theorem dX12_know_124 : decode cX12_know 124 = .ok (.goto (-78), 3) := by decide +kernel
theorem dX12_know_127 : decode cX12_know 127 = .ok (.iinc 1 1, 3) := by decide +kernel
theorem dX12_know_130 : decode cX12_know 130 = .ok (.goto (-94), 3) := by decide +kernel
theorem dX12_know_133 : decode cX12_know 133 = .ok (.iconst 0, 1) := by decide +kernel
theorem dX12_know_134 : decode cX12_know 134 = .ok (.istore_n 1, 1) := by decide +kernel
theorem dX12_know_135 : decode cX12_know 135 = .ok (.iload_n 1, 1) := by decide +kernel
theorem dX12_know_136 : decode cX12_know 136 = .ok (.aload_n 0, 1) := by decide +kernel
theorem dX12_know_137 : decode cX12_know 137 = .ok (.getfield 85, 3) := by decide +kernel
theorem dX12_know_140 : decode cX12_know 140 = .ok (.if_icmp .ge 85, 3) := by decide +kernel
theorem dX12_know_143 : decode cX12_know 143 = .ok (.iconst 0, 1) := by decide +kernel
theorem dX12_know_144 : decode cX12_know 144 = .ok (.istore_n 2, 1) := by decide +kernel
theorem dX12_know_145 : decode cX12_know 145 = .ok (.iload_n 2, 1) := by decide +kernel
theorem dX12_know_146 : decode cX12_know 146 = .ok (.aload_n 0, 1) := by decide +kernel
theorem dX12_know_147 : decode cX12_know 147 = .ok (.getfield 16, 3) := by decide +kernel
theorem dX12_know_150 : decode cX12_know 150 = .ok (.iload_n 1, 1) := by decide +kernel
theorem dX12_know_151 : decode cX12_know 151 = .ok (.iaload, 1) := by decide +kernel
theorem dX12_know_152 : decode cX12_know 152 = .ok (.if_icmp .ge 67, 3) := by decide +kernel
theorem dX12_know_155 : decode cX12_know 155 = .ok (.sipush 200, 3) := by decide +kernel
theorem dX12_know_158 : decode cX12_know 158 = .ok (.iload_n 1, 1) := by decide +kernel
theorem dX12_know_159 : decode cX12_know 159 = .ok (.imul, 1) := by decide +kernel
theorem dX12_know_160 : decode cX12_know 160 = .ok (.iload_n 2, 1) := by decide +kernel
theorem dX12_know_161 : decode cX12_know 161 = .ok (.iadd, 1) := by decide +kernel
theorem dX12_know_162 : decode cX12_know 162 = .ok (.istore_n 3, 1) := by decide +kernel
theorem dX12_know_163 : decode cX12_know 163 = .ok (.aload_n 0, 1) := by decide +kernel
theorem dX12_know_164 : decode cX12_know 164 = .ok (.getfield 58, 3) := by decide +kernel
theorem dX12_know_167 : decode cX12_know 167 = .ok (.iload_n 3, 1) := by decide +kernel
theorem dX12_know_168 : decode cX12_know 168 = .ok (.aload_n 0, 1) := by decide +kernel
theorem dX12_know_169 : decode cX12_know 169 = .ok (.getfield 55, 3) := by decide +kernel
theorem dX12_know_172 : decode cX12_know 172 = .ok (.iload_n 3, 1) := by decide +kernel
theorem dX12_know_173 : decode cX12_know 173 = .ok (.baload, 1) := by decide +kernel
theorem dX12_know_174 : decode cX12_know 174 = .ok (.ifCond .eq 37, 3) := by decide +kernel
theorem dX12_know_177 : decode cX12_know 177 = .ok (.aload_n 0, 1) := by decide +kernel
theorem dX12_know_178 : decode cX12_know 178 = .ok (.aload_n 0, 1) := by decide +kernel
theorem dX12_know_179 : decode cX12_know 179 = .ok (.getfield 65, 3) := by decide +kernel
theorem dX12_know_182 : decode cX12_know 182 = .ok (.aload_n 0, 1) := by decide +kernel
theorem dX12_know_183 : decode cX12_know 183 = .ok (.aload_n 0, 1) := by decide +kernel
theorem dX12_know_184 : decode cX12_know 184 = .ok (.getfield 19, 3) := by decide +kernel
theorem dX12_know_187 : decode cX12_know 187 = .ok (.iload_n 3, 1) := by decide +kernel
theorem dX12_know_188 : decode cX12_know 188 = .ok (.laload, 1) := by decide +kernel
theorem dX12_know_189 : decode cX12_know 189 = .ok (.invokevirtual 102, 3) := by decide +kernel
theorem dX12_know_192 : decode cX12_know 192 = .ok (.iaload, 1) := by decide +kernel
theorem dX12_know_193 : decode cX12_know 193 = .ok (.invokevirtual 106, 3) := by decide +kernel
theorem dX12_know_196 : decode cX12_know 196 = .ok (.aload_n 0, 1) := by decide +kernel
theorem dX12_know_197 : decode cX12_know 197 = .ok (.iload_n 1, 1) := by decide +kernel
theorem dX12_know_198 : decode cX12_know 198 = .ok (.aload_n 0, 1) := by decide +kernel
theorem dX12_know_199 : decode cX12_know 199 = .ok (.getfield 19, 3) := by decide +kernel
theorem dX12_know_202 : decode cX12_know 202 = .ok (.iload_n 3, 1) := by decide +kernel
theorem dX12_know_203 : decode cX12_know 203 = .ok (.laload, 1) := by decide +kernel
theorem dX12_know_204 : decode cX12_know 204 = .ok (.invokevirtual 109, 3) := by decide +kernel
theorem dX12_know_207 : decode cX12_know 207 = .ok (.imul, 1) := by decide +kernel
theorem dX12_know_208 : decode cX12_know 208 = .ok (.goto 4, 3) := by decide +kernel
theorem dX12_know_211 : decode cX12_know 211 = .ok (.iconst 0, 1) := by decide +kernel
theorem dX12_know_212 : decode cX12_know 212 = .ok (.iastore, 1) := by decide +kernel
theorem dX12_know_213 : decode cX12_know 213 = .ok (.iinc 2 1, 3) := by decide +kernel
theorem dX12_know_216 : decode cX12_know 216 = .ok (.goto (-71), 3) := by decide +kernel
theorem dX12_know_219 : decode cX12_know 219 = .ok (.iinc 1 1, 3) := by decide +kernel
theorem dX12_know_222 : decode cX12_know 222 = .ok (.goto (-87), 3) := by decide +kernel
theorem dX12_know_225 : decode cX12_know 225 = .ok (.return_, 1) := by decide +kernel
theorem dX12_having_0 : decode cX12_having 0 = .ok (.aload_n 0, 1) := by decide +kernel
theorem dX12_having_1 : decode cX12_having 1 = .ok (.invokevirtual 112, 3) := by decide +kernel
theorem dX12_having_4 : decode cX12_having 4 = .ok (.aload_n 0, 1) := by decide +kernel
theorem dX12_having_5 : decode cX12_having 5 = .ok (.getfield 65, 3) := by decide +kernel
theorem dX12_having_8 : decode cX12_having 8 = .ok (.aload_n 0, 1) := by decide +kernel
theorem dX12_having_9 : decode cX12_having 9 = .ok (.lload_n 1, 1) := by decide +kernel
theorem dX12_having_10 : decode cX12_having 10 = .ok (.invokevirtual 102, 3) := by decide +kernel
theorem dX12_having_13 : decode cX12_having 13 = .ok (.iaload, 1) := by decide +kernel
theorem dX12_having_14 : decode cX12_having 14 = .ok (.ireturn, 1) := by decide +kernel
theorem dX12_rarity_0 : decode cX12_rarity 0 = .ok (.aload_n 0, 1) := by decide +kernel
theorem dX12_rarity_1 : decode cX12_rarity 1 = .ok (.aload_n 0, 1) := by decide +kernel
theorem dX12_rarity_2 : decode cX12_rarity 2 = .ok (.lload_n 1, 1) := by decide +kernel
theorem dX12_rarity_3 : decode cX12_rarity 3 = .ok (.invokevirtual 115, 3) := by decide +kernel
theorem dX12_rarity_6 : decode cX12_rarity 6 = .ok (.invokevirtual 106, 3) := by decide +kernel
theorem dX12_rarity_9 : decode cX12_rarity 9 = .ok (.ireturn, 1) := by decide +kernel
theorem dX12_digitsOf_0 : decode cX12_digitsOf 0 = .ok (.iload_n 1, 1) := by decide +kernel
theorem dX12_digitsOf_1 : decode cX12_digitsOf 1 = .ok (.ifCond .ne 7, 3) := by decide +kernel
theorem dX12_digitsOf_4 : decode cX12_digitsOf 4 = .ok (.iconst 0, 1) := by decide +kernel
theorem dX12_digitsOf_5 : decode cX12_digitsOf 5 = .ok (.goto 9, 3) := by decide +kernel
theorem dX12_digitsOf_8 : decode cX12_digitsOf 8 = .ok (.aload_n 0, 1) := by decide +kernel
theorem dX12_digitsOf_9 : decode cX12_digitsOf 9 = .ok (.getfield 85, 3) := by decide +kernel
theorem dX12_digitsOf_12 : decode cX12_digitsOf 12 = .ok (.iload_n 1, 1) := by decide +kernel
theorem dX12_digitsOf_13 : decode cX12_digitsOf 13 = .ok (.idiv, 1) := by decide +kernel
theorem dX12_digitsOf_14 : decode cX12_digitsOf 14 = .ok (.istore_n 2, 1) := by decide +kernel
theorem dX12_digitsOf_15 : decode cX12_digitsOf 15 = .ok (.iconst 0, 1) := by decide +kernel
theorem dX12_digitsOf_16 : decode cX12_digitsOf 16 = .ok (.istore_n 3, 1) := by decide +kernel
theorem dX12_digitsOf_17 : decode cX12_digitsOf 17 = .ok (.iload_n 2, 1) := by decide +kernel
theorem dX12_digitsOf_18 : decode cX12_digitsOf 18 = .ok (.ifCond .le 13, 3) := by decide +kernel
theorem dX12_digitsOf_21 : decode cX12_digitsOf 21 = .ok (.iinc 3 1, 3) := by decide +kernel
theorem dX12_digitsOf_24 : decode cX12_digitsOf 24 = .ok (.iload_n 2, 1) := by decide +kernel
theorem dX12_digitsOf_25 : decode cX12_digitsOf 25 = .ok (.iconst 2, 1) := by decide +kernel
theorem dX12_digitsOf_26 : decode cX12_digitsOf 26 = .ok (.idiv, 1) := by decide +kernel
theorem dX12_digitsOf_27 : decode cX12_digitsOf 27 = .ok (.istore_n 2, 1) := by decide +kernel
theorem dX12_digitsOf_28 : decode cX12_digitsOf 28 = .ok (.goto (-11), 3) := by decide +kernel
theorem dX12_digitsOf_31 : decode cX12_digitsOf 31 = .ok (.iload_n 3, 1) := by decide +kernel
theorem dX12_digitsOf_32 : decode cX12_digitsOf 32 = .ok (.ireturn, 1) := by decide +kernel
theorem dX12_isFirst_0 : decode cX12_isFirst 0 = .ok (.iconst 1, 1) := by decide +kernel
theorem dX12_isFirst_1 : decode cX12_isFirst 1 = .ok (.istore_n 3, 1) := by decide +kernel
theorem dX12_isFirst_2 : decode cX12_isFirst 2 = .ok (.iconst 0, 1) := by decide +kernel
theorem dX12_isFirst_3 : decode cX12_isFirst 3 = .ok (.istore 4, 2) := by decide +kernel
theorem dX12_isFirst_5 : decode cX12_isFirst 5 = .ok (.iload 4, 2) := by decide +kernel
theorem dX12_isFirst_7 : decode cX12_isFirst 7 = .ok (.iload_n 2, 1) := by decide +kernel
theorem dX12_isFirst_8 : decode cX12_isFirst 8 = .ok (.if_icmp .ge 48, 3) := by decide +kernel
theorem dX12_isFirst_11 : decode cX12_isFirst 11 = .ok (.iload_n 3, 1) := by decide +kernel
theorem dX12_isFirst_12 : decode cX12_isFirst 12 = .ok (.ifCond .eq 36, 3) := by decide +kernel
theorem dX12_isFirst_15 : decode cX12_isFirst 15 = .ok (.aload_n 0, 1) := by decide +kernel
theorem dX12_isFirst_16 : decode cX12_isFirst 16 = .ok (.getfield 19, 3) := by decide +kernel
theorem dX12_isFirst_19 : decode cX12_isFirst 19 = .ok (.sipush 200, 3) := by decide +kernel
theorem dX12_isFirst_22 : decode cX12_isFirst 22 = .ok (.iload_n 1, 1) := by decide +kernel
theorem dX12_isFirst_23 : decode cX12_isFirst 23 = .ok (.imul, 1) := by decide +kernel
theorem dX12_isFirst_24 : decode cX12_isFirst 24 = .ok (.iload 4, 2) := by decide +kernel
theorem dX12_isFirst_26 : decode cX12_isFirst 26 = .ok (.iadd, 1) := by decide +kernel
theorem dX12_isFirst_27 : decode cX12_isFirst 27 = .ok (.laload, 1) := by decide +kernel
theorem dX12_isFirst_28 : decode cX12_isFirst 28 = .ok (.aload_n 0, 1) := by decide +kernel
theorem dX12_isFirst_29 : decode cX12_isFirst 29 = .ok (.getfield 19, 3) := by decide +kernel
theorem dX12_isFirst_32 : decode cX12_isFirst 32 = .ok (.sipush 200, 3) := by decide +kernel
theorem dX12_isFirst_35 : decode cX12_isFirst 35 = .ok (.iload_n 1, 1) := by decide +kernel
theorem dX12_isFirst_36 : decode cX12_isFirst 36 = .ok (.imul, 1) := by decide +kernel
theorem dX12_isFirst_37 : decode cX12_isFirst 37 = .ok (.iload_n 2, 1) := by decide +kernel
theorem dX12_isFirst_38 : decode cX12_isFirst 38 = .ok (.iadd, 1) := by decide +kernel
theorem dX12_isFirst_39 : decode cX12_isFirst 39 = .ok (.laload, 1) := by decide +kernel
theorem dX12_isFirst_40 : decode cX12_isFirst 40 = .ok (.lcmp, 1) := by decide +kernel
theorem dX12_isFirst_41 : decode cX12_isFirst 41 = .ok (.ifCond .eq 7, 3) := by decide +kernel
theorem dX12_isFirst_44 : decode cX12_isFirst 44 = .ok (.iconst 1, 1) := by decide +kernel
theorem dX12_isFirst_45 : decode cX12_isFirst 45 = .ok (.goto 4, 3) := by decide +kernel
theorem dX12_isFirst_48 : decode cX12_isFirst 48 = .ok (.iconst 0, 1) := by decide +kernel
theorem dX12_isFirst_49 : decode cX12_isFirst 49 = .ok (.istore_n 3, 1) := by decide +kernel
theorem dX12_isFirst_50 : decode cX12_isFirst 50 = .ok (.iinc 4 1, 3) := by decide +kernel
theorem dX12_isFirst_53 : decode cX12_isFirst 53 = .ok (.goto (-48), 3) := by decide +kernel
theorem dX12_isFirst_56 : decode cX12_isFirst 56 = .ok (.iload_n 3, 1) := by decide +kernel
theorem dX12_isFirst_57 : decode cX12_isFirst 57 = .ok (.ireturn, 1) := by decide +kernel
theorem dX12_remove_0 : decode cX12_remove 0 = .ok (.aload_n 0, 1) := by decide +kernel
theorem dX12_remove_1 : decode cX12_remove 1 = .ok (.iconst 0, 1) := by decide +kernel
theorem dX12_remove_2 : decode cX12_remove 2 = .ok (.putfield 94, 3) := by decide +kernel
theorem dX12_remove_5 : decode cX12_remove 5 = .ok (.aload_n 0, 1) := by decide +kernel
theorem dX12_remove_6 : decode cX12_remove 6 = .ok (.dup, 1) := by decide +kernel
theorem dX12_remove_7 : decode cX12_remove 7 = .ok (.getfield 85, 3) := by decide +kernel
theorem dX12_remove_10 : decode cX12_remove 10 = .ok (.iconst 1, 1) := by decide +kernel
theorem dX12_remove_11 : decode cX12_remove 11 = .ok (.isub, 1) := by decide +kernel
theorem dX12_remove_12 : decode cX12_remove 12 = .ok (.putfield 85, 3) := by decide +kernel
theorem dX12_remove_15 : decode cX12_remove 15 = .ok (.aload_n 0, 1) := by decide +kernel
theorem dX12_remove_16 : decode cX12_remove 16 = .ok (.getfield 13, 3) := by decide +kernel
theorem dX12_remove_19 : decode cX12_remove 19 = .ok (.iload_n 1, 1) := by decide +kernel
theorem dX12_remove_20 : decode cX12_remove 20 = .ok (.aload_n 0, 1) := by decide +kernel
theorem dX12_remove_21 : decode cX12_remove 21 = .ok (.getfield 13, 3) := by decide +kernel
theorem dX12_remove_24 : decode cX12_remove 24 = .ok (.aload_n 0, 1) := by decide +kernel
theorem dX12_remove_25 : decode cX12_remove 25 = .ok (.getfield 85, 3) := by decide +kernel
theorem dX12_remove_28 : decode cX12_remove 28 = .ok (.iaload, 1) := by decide +kernel
theorem dX12_remove_29 : decode cX12_remove 29 = .ok (.iastore, 1) := by decide +kernel
theorem dX12_remove_30 : decode cX12_remove 30 = .ok (.aload_n 0, 1) := by decide +kernel
theorem dX12_remove_31 : decode cX12_remove 31 = .ok (.getfield 16, 3) := by decide +kernel
theorem dX12_remove_34 : decode cX12_remove 34 = .ok (.iload_n 1, 1) := by decide +kernel
theorem dX12_remove_35 : decode cX12_remove 35 = .ok (.aload_n 0, 1) := by decide +kernel
theorem dX12_remove_36 : decode cX12_remove 36 = .ok (.getfield 16, 3) := by decide +kernel
theorem dX12_remove_39 : decode cX12_remove 39 = .ok (.aload_n 0, 1) := by decide +kernel
theorem dX12_remove_40 : decode cX12_remove 40 = .ok (.getfield 85, 3) := by decide +kernel
theorem dX12_remove_43 : decode cX12_remove 43 = .ok (.iaload, 1) := by decide +kernel
theorem dX12_remove_44 : decode cX12_remove 44 = .ok (.iastore, 1) := by decide +kernel
theorem dX12_remove_45 : decode cX12_remove 45 = .ok (.iconst 0, 1) := by decide +kernel
theorem dX12_remove_46 : decode cX12_remove 46 = .ok (.istore_n 2, 1) := by decide +kernel
theorem dX12_remove_47 : decode cX12_remove 47 = .ok (.iload_n 2, 1) := by decide +kernel
theorem dX12_remove_48 : decode cX12_remove 48 = .ok (.aload_n 0, 1) := by decide +kernel
theorem dX12_remove_49 : decode cX12_remove 49 = .ok (.getfield 16, 3) := by decide +kernel
theorem dX12_remove_52 : decode cX12_remove 52 = .ok (.aload_n 0, 1) := by decide +kernel
theorem dX12_remove_53 : decode cX12_remove 53 = .ok (.getfield 85, 3) := by decide +kernel
theorem dX12_remove_56 : decode cX12_remove 56 = .ok (.iaload, 1) := by decide +kernel
theorem dX12_remove_57 : decode cX12_remove 57 = .ok (.if_icmp .ge 36, 3) := by decide +kernel
theorem dX12_remove_60 : decode cX12_remove 60 = .ok (.aload_n 0, 1) := by decide +kernel
theorem dX12_remove_61 : decode cX12_remove 61 = .ok (.getfield 19, 3) := by decide +kernel
theorem dX12_remove_64 : decode cX12_remove 64 = .ok (.sipush 200, 3) := by decide +kernel
theorem dX12_remove_67 : decode cX12_remove 67 = .ok (.iload_n 1, 1) := by decide +kernel
theorem dX12_remove_68 : decode cX12_remove 68 = .ok (.imul, 1) := by decide +kernel
theorem dX12_remove_69 : decode cX12_remove 69 = .ok (.iload_n 2, 1) := by decide +kernel
theorem dX12_remove_70 : decode cX12_remove 70 = .ok (.iadd, 1) := by decide +kernel
theorem dX12_remove_71 : decode cX12_remove 71 = .ok (.aload_n 0, 1) := by decide +kernel
theorem dX12_remove_72 : decode cX12_remove 72 = .ok (.getfield 19, 3) := by decide +kernel
theorem dX12_remove_75 : decode cX12_remove 75 = .ok (.sipush 200, 3) := by decide +kernel
theorem dX12_remove_78 : decode cX12_remove 78 = .ok (.aload_n 0, 1) := by decide +kernel
theorem dX12_remove_79 : decode cX12_remove 79 = .ok (.getfield 85, 3) := by decide +kernel
theorem dX12_remove_82 : decode cX12_remove 82 = .ok (.imul, 1) := by decide +kernel
theorem dX12_remove_83 : decode cX12_remove 83 = .ok (.iload_n 2, 1) := by decide +kernel
theorem dX12_remove_84 : decode cX12_remove 84 = .ok (.iadd, 1) := by decide +kernel
theorem dX12_remove_85 : decode cX12_remove 85 = .ok (.laload, 1) := by decide +kernel
theorem dX12_remove_86 : decode cX12_remove 86 = .ok (.lastore, 1) := by decide +kernel
theorem dX12_remove_87 : decode cX12_remove 87 = .ok (.iinc 2 1, 3) := by decide +kernel
theorem dX12_remove_90 : decode cX12_remove 90 = .ok (.goto (-43), 3) := by decide +kernel
theorem dX12_remove_93 : decode cX12_remove 93 = .ok (.return_, 1) := by decide +kernel
end
section
theorem dX12_feed_0 : decode cX12_feed 0 = .ok (.aload_n 0, 1) := by decide +kernel
theorem dX12_feed_1 : decode cX12_feed 1 = .ok (.iload_n 1, 1) := by decide +kernel
theorem dX12_feed_2 : decode cX12_feed 2 = .ok (.iconst 1, 1) := by decide +kernel
theorem dX12_feed_3 : decode cX12_feed 3 = .ok (.if_icmp .lt 9, 3) := by decide +kernel
theorem dX12_feed_6 : decode cX12_feed 6 = .ok (.iload_n 1, 1) := by decide +kernel
theorem dX12_feed_7 : decode cX12_feed 7 = .ok (.bipush 8, 2) := by decide +kernel
theorem dX12_feed_9 : decode cX12_feed 9 = .ok (.if_icmp .le 7, 3) := by decide +kernel
theorem dX12_feed_12 : decode cX12_feed 12 = .ok (.iconst 1, 1) := by decide +kernel
theorem dX12_feed_13 : decode cX12_feed 13 = .ok (.goto 4, 3) := by decide +kernel
theorem dX12_feed_16 : decode cX12_feed 16 = .ok (.iconst 0, 1) := by decide +kernel
theorem dX12_feed_17 : decode cX12_feed 17 = .ok (.putfield 68, 3) := by decide +kernel
theorem dX12_feed_20 : decode cX12_feed 20 = .ok (.aload_n 0, 1) := by decide +kernel
theorem dX12_feed_21 : decode cX12_feed 21 = .ok (.getfield 68, 3) := by decide +kernel
theorem dX12_feed_24 : decode cX12_feed 24 = .ok (.ifCond .le 5, 3) := by decide +kernel
theorem dX12_feed_27 : decode cX12_feed 27 = .ok (.iconst 0, 1) := by decide +kernel
theorem dX12_feed_28 : decode cX12_feed 28 = .ok (.ireturn, 1) := by decide +kernel
theorem dX12_feed_29 : decode cX12_feed 29 = .ok (.aload_n 0, 1) := by decide +kernel
theorem dX12_feed_30 : decode cX12_feed 30 = .ok (.getfield 74, 3) := by decide +kernel
theorem dX12_feed_33 : decode cX12_feed 33 = .ok (.iload_n 1, 1) := by decide +kernel
theorem dX12_feed_34 : decode cX12_feed 34 = .ok (.iadd, 1) := by decide +kernel
theorem dX12_feed_35 : decode cX12_feed 35 = .ok (.sipush 400, 3) := by decide +kernel
theorem dX12_feed_38 : decode cX12_feed 38 = .ok (.if_icmp .le 5, 3) := by decide +kernel
theorem dX12_feed_41 : decode cX12_feed 41 = .ok (.iconst (-1), 1) := by decide +kernel
theorem dX12_feed_42 : decode cX12_feed 42 = .ok (.ireturn, 1) := by decide +kernel
theorem dX12_feed_43 : decode cX12_feed 43 = .ok (.iconst 0, 1) := by decide +kernel
theorem dX12_feed_44 : decode cX12_feed 44 = .ok (.istore 4, 2) := by decide +kernel
theorem dX12_feed_46 : decode cX12_feed 46 = .ok (.iload 4, 2) := by decide +kernel
theorem dX12_feed_48 : decode cX12_feed 48 = .ok (.iload_n 1, 1) := by decide +kernel
theorem dX12_feed_49 : decode cX12_feed 49 = .ok (.if_icmp .ge 40, 3) := by decide +kernel
theorem dX12_feed_52 : decode cX12_feed 52 = .ok (.aload_n 0, 1) := by decide +kernel
theorem dX12_feed_53 : decode cX12_feed 53 = .ok (.getfield 7, 3) := by decide +kernel
theorem dX12_feed_56 : decode cX12_feed 56 = .ok (.aload_n 0, 1) := by decide +kernel
theorem dX12_feed_57 : decode cX12_feed 57 = .ok (.getfield 74, 3) := by decide +kernel
theorem dX12_feed_60 : decode cX12_feed 60 = .ok (.lload_n 2, 1) := by decide +kernel
theorem dX12_feed_61 : decode cX12_feed 61 = .ok (.bipush 8, 2) := by decide +kernel
theorem dX12_feed_63 : decode cX12_feed 63 = .ok (.iload 4, 2) := by decide +kernel
theorem dX12_feed_65 : decode cX12_feed 65 = .ok (.imul, 1) := by decide +kernel
theorem dX12_feed_66 : decode cX12_feed 66 = .ok (.lshr, 1) := by decide +kernel
theorem dX12_feed_67 : decode cX12_feed 67 = .ok (.ldc2_w 117, 3) := by decide +kernel
theorem dX12_feed_70 : decode cX12_feed 70 = .ok (.land, 1) := by decide +kernel
theorem dX12_feed_71 : decode cX12_feed 71 = .ok (.l2i, 1) := by decide +kernel
theorem dX12_feed_72 : decode cX12_feed 72 = .ok (.iastore, 1) := by decide +kernel
theorem dX12_feed_73 : decode cX12_feed 73 = .ok (.aload_n 0, 1) := by decide +kernel
theorem dX12_feed_74 : decode cX12_feed 74 = .ok (.dup, 1) := by decide +kernel
theorem dX12_feed_75 : decode cX12_feed 75 = .ok (.getfield 74, 3) := by decide +kernel
theorem dX12_feed_78 : decode cX12_feed 78 = .ok (.iconst 1, 1) := by decide +kernel
theorem dX12_feed_79 : decode cX12_feed 79 = .ok (.iadd, 1) := by decide +kernel
theorem dX12_feed_80 : decode cX12_feed 80 = .ok (.putfield 74, 3) := by decide +kernel
theorem dX12_feed_83 : decode cX12_feed 83 = .ok (.iinc 4 1, 3) := by decide +kernel
theorem dX12_feed_86 : decode cX12_feed 86 = .ok (.goto (-40), 3) := by decide +kernel
theorem dX12_feed_89 : decode cX12_feed 89 = .ok (.aload_n 0, 1) := by decide +kernel
theorem dX12_feed_90 : decode cX12_feed 90 = .ok (.getfield 74, 3) := by decide +kernel
theorem dX12_feed_93 : decode cX12_feed 93 = .ok (.ireturn, 1) := by decide +kernel
theorem dX12_wipe_0 : decode cX12_wipe 0 = .ok (.aload_n 0, 1) := by decide +kernel
theorem dX12_wipe_1 : decode cX12_wipe 1 = .ok (.iconst 0, 1) := by decide +kernel
theorem dX12_wipe_2 : decode cX12_wipe 2 = .ok (.putfield 68, 3) := by decide +kernel
theorem dX12_wipe_5 : decode cX12_wipe 5 = .ok (.aload_n 0, 1) := by decide +kernel
theorem dX12_wipe_6 : decode cX12_wipe 6 = .ok (.getfield 74, 3) := by decide +kernel
theorem dX12_wipe_9 : decode cX12_wipe 9 = .ok (.istore_n 1, 1) := by decide +kernel
theorem dX12_wipe_10 : decode cX12_wipe 10 = .ok (.aload_n 0, 1) := by decide +kernel
theorem dX12_wipe_11 : decode cX12_wipe 11 = .ok (.iconst 0, 1) := by decide +kernel
theorem dX12_wipe_12 : decode cX12_wipe 12 = .ok (.putfield 74, 3) := by decide +kernel
theorem dX12_wipe_15 : decode cX12_wipe 15 = .ok (.iload_n 1, 1) := by decide +kernel
theorem dX12_wipe_16 : decode cX12_wipe 16 = .ok (.ireturn, 1) := by decide +kernel
theorem dX12_isNumber_0 : decode cX12_isNumber 0 = .ok (.iload_n 0, 1) := by decide +kernel
theorem dX12_isNumber_1 : decode cX12_isNumber 1 = .ok (.ifCond .lt 14, 3) := by decide +kernel
theorem dX12_isNumber_4 : decode cX12_isNumber 4 = .ok (.iload_n 0, 1) := by decide +kernel
theorem dX12_isNumber_5 : decode cX12_isNumber 5 = .ok (.sipush 9999, 3) := by decide +kernel
theorem dX12_isNumber_8 : decode cX12_isNumber 8 = .ok (.if_icmp .gt 7, 3) := by decide +kernel
theorem dX12_isNumber_11 : decode cX12_isNumber 11 = .ok (.iconst 1, 1) := by decide +kernel
theorem dX12_isNumber_12 : decode cX12_isNumber 12 = .ok (.goto 4, 3) := by decide +kernel
theorem dX12_isNumber_15 : decode cX12_isNumber 15 = .ok (.iconst 0, 1) := by decide +kernel
theorem dX12_isNumber_16 : decode cX12_isNumber 16 = .ok (.ireturn, 1) := by decide +kernel
theorem dX12_put_0 : decode cX12_put 0 = .ok (.aload_n 0, 1) := by decide +kernel
theorem dX12_put_1 : decode cX12_put 1 = .ok (.iload_n 1, 1) := by decide +kernel
theorem dX12_put_2 : decode cX12_put 2 = .ok (.invokestatic 119, 3) := by decide +kernel
theorem dX12_put_5 : decode cX12_put 5 = .ok (.ifCond .eq 7, 3) := by decide +kernel
theorem dX12_put_8 : decode cX12_put 8 = .ok (.iconst 0, 1) := by decide +kernel
theorem dX12_put_9 : decode cX12_put 9 = .ok (.goto 4, 3) := by decide +kernel
theorem dX12_put_12 : decode cX12_put 12 = .ok (.iconst 1, 1) := by decide +kernel
theorem dX12_put_13 : decode cX12_put 13 = .ok (.putfield 68, 3) := by decide +kernel
theorem dX12_put_16 : decode cX12_put 16 = .ok (.aload_n 0, 1) := by decide +kernel
theorem dX12_put_17 : decode cX12_put 17 = .ok (.getfield 68, 3) := by decide +kernel
theorem dX12_put_20 : decode cX12_put 20 = .ok (.ifCond .le 5, 3) := by decide +kernel
theorem dX12_put_23 : decode cX12_put 23 = .ok (.iconst 0, 1) := by decide +kernel
theorem dX12_put_24 : decode cX12_put 24 = .ok (.ireturn, 1) := by decide +kernel
theorem dX12_put_25 : decode cX12_put 25 = .ok (.aload_n 0, 1) := by decide +kernel
theorem dX12_put_26 : decode cX12_put 26 = .ok (.iload_n 1, 1) := by decide +kernel
theorem dX12_put_27 : decode cX12_put 27 = .ok (.invokevirtual 123, 3) := by decide +kernel
theorem dX12_put_30 : decode cX12_put 30 = .ok (.istore_n 2, 1) := by decide +kernel
theorem dX12_put_31 : decode cX12_put 31 = .ok (.iload_n 2, 1) := by decide +kernel
theorem dX12_put_32 : decode cX12_put 32 = .ok (.ifCond .ge 14, 3) := by decide +kernel
theorem dX12_put_35 : decode cX12_put 35 = .ok (.aload_n 0, 1) := by decide +kernel
theorem dX12_put_36 : decode cX12_put 36 = .ok (.getfield 85, 3) := by decide +kernel
theorem dX12_put_39 : decode cX12_put 39 = .ok (.bipush 120, 2) := by decide +kernel
theorem dX12_put_41 : decode cX12_put 41 = .ok (.if_icmp .ne 5, 3) := by decide +kernel
theorem dX12_put_44 : decode cX12_put 44 = .ok (.iconst (-1), 1) := by decide +kernel
theorem dX12_put_45 : decode cX12_put 45 = .ok (.ireturn, 1) := by decide +kernel
theorem dX12_put_46 : decode cX12_put 46 = .ok (.iload_n 2, 1) := by decide +kernel
theorem dX12_put_47 : decode cX12_put 47 = .ok (.ifCond .lt 8, 3) := by decide +kernel
theorem dX12_put_50 : decode cX12_put 50 = .ok (.aload_n 0, 1) := by decide +kernel
theorem dX12_put_51 : decode cX12_put 51 = .ok (.iload_n 2, 1) := by decide +kernel
theorem dX12_put_52 : decode cX12_put 52 = .ok (.invokevirtual 126, 3) := by decide +kernel
theorem dX12_put_55 : decode cX12_put 55 = .ok (.aload_n 0, 1) := by decide +kernel
theorem dX12_put_56 : decode cX12_put 56 = .ok (.invokevirtual 130, 3) := by decide +kernel
theorem dX12_put_59 : decode cX12_put 59 = .ok (.aload_n 0, 1) := by decide +kernel
theorem dX12_put_60 : decode cX12_put 60 = .ok (.iconst 0, 1) := by decide +kernel
theorem dX12_put_61 : decode cX12_put 61 = .ok (.putfield 94, 3) := by decide +kernel
theorem dX12_put_64 : decode cX12_put 64 = .ok (.aload_n 0, 1) := by decide +kernel
theorem dX12_put_65 : decode cX12_put 65 = .ok (.getfield 85, 3) := by decide +kernel
theorem dX12_put_68 : decode cX12_put 68 = .ok (.istore_n 2, 1) := by decide +kernel
theorem dX12_put_69 : decode cX12_put 69 = .ok (.aload_n 0, 1) := by decide +kernel
theorem dX12_put_70 : decode cX12_put 70 = .ok (.getfield 13, 3) := by decide +kernel
theorem dX12_put_73 : decode cX12_put 73 = .ok (.iload_n 2, 1) := by decide +kernel
theorem dX12_put_74 : decode cX12_put 74 = .ok (.iload_n 1, 1) := by decide +kernel
theorem dX12_put_75 : decode cX12_put 75 = .ok (.iastore, 1) := by decide +kernel
theorem dX12_put_76 : decode cX12_put 76 = .ok (.aload_n 0, 1) := by decide +kernel
theorem dX12_put_77 : decode cX12_put 77 = .ok (.getfield 16, 3) := by decide +kernel
theorem dX12_put_80 : decode cX12_put 80 = .ok (.iload_n 2, 1) := by decide +kernel
theorem dX12_put_81 : decode cX12_put 81 = .ok (.aload_n 0, 1) := by decide +kernel
theorem dX12_put_82 : decode cX12_put 82 = .ok (.getfield 71, 3) := by decide +kernel
theorem dX12_put_85 : decode cX12_put 85 = .ok (.iastore, 1) := by decide +kernel
theorem dX12_put_86 : decode cX12_put 86 = .ok (.iconst 0, 1) := by decide +kernel
theorem dX12_put_87 : decode cX12_put 87 = .ok (.istore_n 3, 1) := by decide +kernel
theorem dX12_put_88 : decode cX12_put 88 = .ok (.iload_n 3, 1) := by decide +kernel
theorem dX12_put_89 : decode cX12_put 89 = .ok (.aload_n 0, 1) := by decide +kernel
theorem dX12_put_90 : decode cX12_put 90 = .ok (.getfield 71, 3) := by decide +kernel
theorem dX12_put_93 : decode cX12_put 93 = .ok (.if_icmp .ge 27, 3) := by decide +kernel
theorem dX12_put_96 : decode cX12_put 96 = .ok (.aload_n 0, 1) := by decide +kernel
theorem dX12_put_97 : decode cX12_put 97 = .ok (.getfield 19, 3) := by decide +kernel
theorem dX12_put_100 : decode cX12_put 100 = .ok (.sipush 200, 3) := by decide +kernel
theorem dX12_put_103 : decode cX12_put 103 = .ok (.iload_n 2, 1) := by decide +kernel
theorem dX12_put_104 : decode cX12_put 104 = .ok (.imul, 1) := by decide +kernel
theorem dX12_put_105 : decode cX12_put 105 = .ok (.iload_n 3, 1) := by decide +kernel
theorem dX12_put_106 : decode cX12_put 106 = .ok (.iadd, 1) := by decide +kernel
theorem dX12_put_107 : decode cX12_put 107 = .ok (.aload_n 0, 1) := by decide +kernel
theorem dX12_put_108 : decode cX12_put 108 = .ok (.getfield 23, 3) := by decide +kernel
theorem dX12_put_111 : decode cX12_put 111 = .ok (.iload_n 3, 1) := by decide +kernel
theorem dX12_put_112 : decode cX12_put 112 = .ok (.laload, 1) := by decide +kernel
theorem dX12_put_113 : decode cX12_put 113 = .ok (.lastore, 1) := by decide +kernel
theorem dX12_put_114 : decode cX12_put 114 = .ok (.iinc 3 1, 3) := by decide +kernel
theorem dX12_put_117 : decode cX12_put 117 = .ok (.goto (-29), 3) := by decide +kernel
theorem dX12_put_120 : decode cX12_put 120 = .ok (.aload_n 0, 1) := by decide +kernel
theorem dX12_put_121 : decode cX12_put 121 = .ok (.dup, 1) := by decide +kernel
theorem dX12_put_122 : decode cX12_put 122 = .ok (.getfield 85, 3) := by decide +kernel
theorem dX12_put_125 : decode cX12_put 125 = .ok (.iconst 1, 1) := by decide +kernel
theorem dX12_put_126 : decode cX12_put 126 = .ok (.iadd, 1) := by decide +kernel
theorem dX12_put_127 : decode cX12_put 127 = .ok (.putfield 85, 3) := by decide +kernel
theorem dX12_put_130 : decode cX12_put 130 = .ok (.aload_n 0, 1) := by decide +kernel
theorem dX12_put_131 : decode cX12_put 131 = .ok (.getfield 71, 3) := by decide +kernel
theorem dX12_put_134 : decode cX12_put 134 = .ok (.ireturn, 1) := by decide +kernel
theorem dX12_drop_0 : decode cX12_drop 0 = .ok (.aload_n 0, 1) := by decide +kernel
theorem dX12_drop_1 : decode cX12_drop 1 = .ok (.iload_n 1, 1) := by decide +kernel
theorem dX12_drop_2 : decode cX12_drop 2 = .ok (.invokestatic 119, 3) := by decide +kernel
theorem dX12_drop_5 : decode cX12_drop 5 = .ok (.ifCond .eq 7, 3) := by decide +kernel
theorem dX12_drop_8 : decode cX12_drop 8 = .ok (.iconst 0, 1) := by decide +kernel
theorem dX12_drop_9 : decode cX12_drop 9 = .ok (.goto 4, 3) := by decide +kernel
theorem dX12_drop_12 : decode cX12_drop 12 = .ok (.iconst 1, 1) := by decide +kernel
theorem dX12_drop_13 : decode cX12_drop 13 = .ok (.putfield 68, 3) := by decide +kernel
theorem dX12_drop_16 : decode cX12_drop 16 = .ok (.aload_n 0, 1) := by decide +kernel
theorem dX12_drop_17 : decode cX12_drop 17 = .ok (.getfield 68, 3) := by decide +kernel
theorem dX12_drop_20 : decode cX12_drop 20 = .ok (.ifCond .le 7, 3) := by decide +kernel
theorem dX12_drop_23 : decode cX12_drop 23 = .ok (.iconst (-1), 1) := by decide +kernel
theorem dX12_drop_24 : decode cX12_drop 24 = .ok (.goto 8, 3) := by decide +kernel
theorem dX12_drop_27 : decode cX12_drop 27 = .ok (.aload_n 0, 1) := by decide +kernel
theorem dX12_drop_28 : decode cX12_drop 28 = .ok (.iload_n 1, 1) := by decide +kernel
theorem dX12_drop_29 : decode cX12_drop 29 = .ok (.invokevirtual 123, 3) := by decide +kernel
theorem dX12_drop_32 : decode cX12_drop 32 = .ok (.istore_n 2, 1) := by decide +kernel
theorem dX12_drop_33 : decode cX12_drop 33 = .ok (.iload_n 2, 1) := by decide +kernel
theorem dX12_drop_34 : decode cX12_drop 34 = .ok (.ifCond .lt 8, 3) := by decide +kernel
theorem dX12_drop_37 : decode cX12_drop 37 = .ok (.aload_n 0, 1) := by decide +kernel
theorem dX12_drop_38 : decode cX12_drop 38 = .ok (.iload_n 2, 1) := by decide +kernel
theorem dX12_drop_39 : decode cX12_drop 39 = .ok (.invokevirtual 126, 3) := by decide +kernel
theorem dX12_drop_42 : decode cX12_drop 42 = .ok (.iload_n 2, 1) := by decide +kernel
theorem dX12_drop_43 : decode cX12_drop 43 = .ok (.ifCond .lt 7, 3) := by decide +kernel
theorem dX12_drop_46 : decode cX12_drop 46 = .ok (.iconst 1, 1) := by decide +kernel
theorem dX12_drop_47 : decode cX12_drop 47 = .ok (.goto 4, 3) := by decide +kernel
theorem dX12_drop_50 : decode cX12_drop 50 = .ok (.iconst 0, 1) := by decide +kernel
theorem dX12_drop_51 : decode cX12_drop 51 = .ok (.ireturn, 1) := by decide +kernel
theorem dX12_nextWord_0 : decode cX12_nextWord 0 = .ok (.ldc2_w 133, 3) := by decide +kernel
theorem dX12_nextWord_3 : decode cX12_nextWord 3 = .ok (.lstore_n 3, 1) := by decide +kernel
theorem dX12_nextWord_4 : decode cX12_nextWord 4 = .ok (.iconst 0, 1) := by decide +kernel
theorem dX12_nextWord_5 : decode cX12_nextWord 5 = .ok (.istore 5, 2) := by decide +kernel
theorem dX12_nextWord_7 : decode cX12_nextWord 7 = .ok (.iload 5, 2) := by decide +kernel
theorem dX12_nextWord_9 : decode cX12_nextWord 9 = .ok (.aload_n 0, 1) := by decide +kernel
theorem dX12_nextWord_10 : decode cX12_nextWord 10 = .ok (.getfield 85, 3) := by decide +kernel
theorem dX12_nextWord_13 : decode cX12_nextWord 13 = .ok (.if_icmp .ge 84, 3) := by decide +kernel
theorem dX12_nextWord_16 : decode cX12_nextWord 16 = .ok (.sipush 200, 3) := by decide +kernel
theorem dX12_nextWord_19 : decode cX12_nextWord 19 = .ok (.iload 5, 2) := by decide +kernel
theorem dX12_nextWord_21 : decode cX12_nextWord 21 = .ok (.imul, 1) := by decide +kernel
theorem dX12_nextWord_22 : decode cX12_nextWord 22 = .ok (.istore 6, 2) := by decide +kernel
theorem dX12_nextWord_24 : decode cX12_nextWord 24 = .ok (.iload 6, 2) := by decide +kernel
theorem dX12_nextWord_26 : decode cX12_nextWord 26 = .ok (.sipush 200, 3) := by decide +kernel
theorem dX12_nextWord_29 : decode cX12_nextWord 29 = .ok (.iload 5, 2) := by decide +kernel
theorem dX12_nextWord_31 : decode cX12_nextWord 31 = .ok (.imul, 1) := by decide +kernel
theorem dX12_nextWord_32 : decode cX12_nextWord 32 = .ok (.aload_n 0, 1) := by decide +kernel
theorem dX12_nextWord_33 : decode cX12_nextWord 33 = .ok (.getfield 16, 3) := by decide +kernel
theorem dX12_nextWord_36 : decode cX12_nextWord 36 = .ok (.iload 5, 2) := by decide +kernel
theorem dX12_nextWord_38 : decode cX12_nextWord 38 = .ok (.iaload, 1) := by decide +kernel
theorem dX12_nextWord_39 : decode cX12_nextWord 39 = .ok (.iadd, 1) := by decide +kernel
theorem dX12_nextWord_40 : decode cX12_nextWord 40 = .ok (.if_icmp .ge 51, 3) := by decide +kernel
theorem dX12_nextWord_43 : decode cX12_nextWord 43 = .ok (.aload_n 0, 1) := by decide +kernel
theorem dX12_nextWord_44 : decode cX12_nextWord 44 = .ok (.getfield 19, 3) := by decide +kernel
theorem dX12_nextWord_47 : decode cX12_nextWord 47 = .ok (.iload 6, 2) := by decide +kernel
theorem dX12_nextWord_49 : decode cX12_nextWord 49 = .ok (.laload, 1) := by decide +kernel
theorem dX12_nextWord_50 : decode cX12_nextWord 50 = .ok (.lload_n 1, 1) := by decide +kernel
theorem dX12_nextWord_51 : decode cX12_nextWord 51 = .ok (.lcmp, 1) := by decide +kernel
theorem dX12_nextWord_52 : decode cX12_nextWord 52 = .ok (.ifCond .le 31, 3) := by decide +kernel
theorem dX12_nextWord_55 : decode cX12_nextWord 55 = .ok (.lload_n 3, 1) := by decide +kernel
theorem dX12_nextWord_56 : decode cX12_nextWord 56 = .ok (.lconst 0, 1) := by decide +kernel
theorem dX12_nextWord_57 : decode cX12_nextWord 57 = .ok (.lcmp, 1) := by decide +kernel
theorem dX12_nextWord_58 : decode cX12_nextWord 58 = .ok (.ifCond .lt 15, 3) := by decide +kernel
theorem dX12_nextWord_61 : decode cX12_nextWord 61 = .ok (.aload_n 0, 1) := by decide +kernel
theorem dX12_nextWord_62 : decode cX12_nextWord 62 = .ok (.getfield 19, 3) := by decide +kernel
theorem dX12_nextWord_65 : decode cX12_nextWord 65 = .ok (.iload 6, 2) := by decide +kernel
theorem dX12_nextWord_67 : decode cX12_nextWord 67 = .ok (.laload, 1) := by decide +kernel
theorem dX12_nextWord_68 : decode cX12_nextWord 68 = .ok (.lload_n 3, 1) := by decide +kernel
theorem dX12_nextWord_69 : decode cX12_nextWord 69 = .ok (.lcmp, 1) := by decide +kernel
theorem dX12_nextWord_70 : decode cX12_nextWord 70 = .ok (.ifCond .ge 13, 3) := by decide +kernel
theorem dX12_nextWord_73 : decode cX12_nextWord 73 = .ok (.aload_n 0, 1) := by decide +kernel
theorem dX12_nextWord_74 : decode cX12_nextWord 74 = .ok (.getfield 19, 3) := by decide +kernel
theorem dX12_nextWord_77 : decode cX12_nextWord 77 = .ok (.iload 6, 2) := by decide +kernel
theorem dX12_nextWord_79 : decode cX12_nextWord 79 = .ok (.laload, 1) := by decide +kernel
theorem dX12_nextWord_80 : decode cX12_nextWord 80 = .ok (.goto 4, 3) := by decide +kernel
theorem dX12_nextWord_83 : decode cX12_nextWord 83 = .ok (.lload_n 3, 1) := by decide +kernel
theorem dX12_nextWord_84 : decode cX12_nextWord 84 = .ok (.lstore_n 3, 1) := by decide +kernel
theorem dX12_nextWord_85 : decode cX12_nextWord 85 = .ok (.iinc 6 1, 3) := by decide +kernel
theorem dX12_nextWord_88 : decode cX12_nextWord 88 = .ok (.goto (-64), 3) := by decide +kernel
theorem dX12_nextWord_91 : decode cX12_nextWord 91 = .ok (.iinc 5 1, 3) := by decide +kernel
theorem dX12_nextWord_94 : decode cX12_nextWord 94 = .ok (.goto (-87), 3) := by decide +kernel
theorem dX12_nextWord_97 : decode cX12_nextWord 97 = .ok (.lload_n 3, 1) := by decide +kernel
theorem dX12_nextWord_98 : decode cX12_nextWord 98 = .ok (.lreturn, 1) := by decide +kernel
theorem dX12_told_0 : decode cX12_told 0 = .ok (.aload_n 0, 1) := by decide +kernel
theorem dX12_told_1 : decode cX12_told 1 = .ok (.iload_n 1, 1) := by decide +kernel
theorem dX12_told_2 : decode cX12_told 2 = .ok (.ifCond .lt 8, 3) := by decide +kernel
theorem dX12_told_5 : decode cX12_told 5 = .ok (.iload_n 1, 1) := by decide +kernel
theorem dX12_told_6 : decode cX12_told 6 = .ok (.iconst 2, 1) := by decide +kernel
theorem dX12_told_7 : decode cX12_told 7 = .ok (.if_icmp .le 7, 3) := by decide +kernel
theorem dX12_told_10 : decode cX12_told 10 = .ok (.iconst 1, 1) := by decide +kernel
theorem dX12_told_11 : decode cX12_told 11 = .ok (.goto 4, 3) := by decide +kernel
theorem dX12_told_14 : decode cX12_told 14 = .ok (.iconst 0, 1) := by decide +kernel
theorem dX12_told_15 : decode cX12_told 15 = .ok (.putfield 68, 3) := by decide +kernel
theorem dX12_told_18 : decode cX12_told 18 = .ok (.aload_n 0, 1) := by decide +kernel
theorem dX12_told_19 : decode cX12_told 19 = .ok (.getfield 68, 3) := by decide +kernel
theorem dX12_told_22 : decode cX12_told 22 = .ok (.ifCond .le 5, 3) := by decide +kernel
theorem dX12_told_25 : decode cX12_told 25 = .ok (.iconst 0, 1) := by decide +kernel
theorem dX12_told_26 : decode cX12_told 26 = .ok (.ireturn, 1) := by decide +kernel
theorem dX12_told_27 : decode cX12_told 27 = .ok (.iconst 0, 1) := by decide +kernel
theorem dX12_told_28 : decode cX12_told 28 = .ok (.istore_n 2, 1) := by decide +kernel
theorem dX12_told_29 : decode cX12_told 29 = .ok (.iconst 0, 1) := by decide +kernel
theorem dX12_told_30 : decode cX12_told 30 = .ok (.istore_n 3, 1) := by decide +kernel
theorem dX12_told_31 : decode cX12_told 31 = .ok (.iload_n 3, 1) := by decide +kernel
theorem dX12_told_32 : decode cX12_told 32 = .ok (.aload_n 0, 1) := by decide +kernel
theorem dX12_told_33 : decode cX12_told 33 = .ok (.getfield 85, 3) := by decide +kernel
theorem dX12_told_36 : decode cX12_told 36 = .ok (.if_icmp .ge 18, 3) := by decide +kernel
theorem dX12_told_39 : decode cX12_told 39 = .ok (.iload_n 2, 1) := by decide +kernel
theorem dX12_told_40 : decode cX12_told 40 = .ok (.aload_n 0, 1) := by decide +kernel
theorem dX12_told_41 : decode cX12_told 41 = .ok (.getfield 16, 3) := by decide +kernel
theorem dX12_told_44 : decode cX12_told 44 = .ok (.iload_n 3, 1) := by decide +kernel
theorem dX12_told_45 : decode cX12_told 45 = .ok (.iaload, 1) := by decide +kernel
theorem dX12_told_46 : decode cX12_told 46 = .ok (.iadd, 1) := by decide +kernel
theorem dX12_told_47 : decode cX12_told 47 = .ok (.istore_n 2, 1) := by decide +kernel
theorem dX12_told_48 : decode cX12_told 48 = .ok (.iinc 3 1, 3) := by decide +kernel
theorem dX12_told_51 : decode cX12_told 51 = .ok (.goto (-20), 3) := by decide +kernel
theorem dX12_told_54 : decode cX12_told 54 = .ok (.iconst 0, 1) := by decide +kernel
theorem dX12_told_55 : decode cX12_told 55 = .ok (.istore_n 3, 1) := by decide +kernel
theorem dX12_told_56 : decode cX12_told 56 = .ok (.aload_n 0, 1) := by decide +kernel
theorem dX12_told_57 : decode cX12_told 57 = .ok (.ldc2_w 133, 3) := by decide +kernel
theorem dX12_told_60 : decode cX12_told 60 = .ok (.invokevirtual 135, 3) := by decide +kernel
theorem dX12_told_63 : decode cX12_told 63 = .ok (.lstore 4, 2) := by decide +kernel
theorem dX12_told_65 : decode cX12_told 65 = .ok (.lload 4, 2) := by decide +kernel
theorem dX12_told_67 : decode cX12_told 67 = .ok (.lconst 0, 1) := by decide +kernel
theorem dX12_told_68 : decode cX12_told 68 = .ok (.lcmp, 1) := by decide +kernel
theorem dX12_told_69 : decode cX12_told 69 = .ok (.ifCond .lt 22, 3) := by decide +kernel
theorem dX12_told_72 : decode cX12_told 72 = .ok (.iload_n 1, 1) := by decide +kernel
theorem dX12_told_73 : decode cX12_told 73 = .ok (.iconst 1, 1) := by decide +kernel
theorem dX12_told_74 : decode cX12_told 74 = .ok (.if_icmp .ne 17, 3) := by decide +kernel
theorem dX12_told_77 : decode cX12_told 77 = .ok (.iinc 3 1, 3) := by decide +kernel
theorem dX12_told_80 : decode cX12_told 80 = .ok (.aload_n 0, 1) := by decide +kernel
theorem dX12_told_81 : decode cX12_told 81 = .ok (.lload 4, 2) := by decide +kernel
theorem dX12_told_83 : decode cX12_told 83 = .ok (.invokevirtual 135, 3) := by decide +kernel
theorem dX12_told_86 : decode cX12_told 86 = .ok (.lstore 4, 2) := by decide +kernel
theorem dX12_told_88 : decode cX12_told 88 = .ok (.goto (-23), 3) := by decide +kernel
theorem dX12_told_91 : decode cX12_told 91 = .ok (.iload_n 1, 1) := by decide +kernel
theorem dX12_told_92 : decode cX12_told 92 = .ok (.ifCond .ne 10, 3) := by decide +kernel
theorem dX12_told_95 : decode cX12_told 95 = .ok (.aload_n 0, 1) := by decide +kernel
theorem dX12_told_96 : decode cX12_told 96 = .ok (.getfield 85, 3) := by decide +kernel
theorem dX12_told_99 : decode cX12_told 99 = .ok (.goto 13, 3) := by decide +kernel
theorem dX12_told_102 : decode cX12_told 102 = .ok (.iload_n 1, 1) := by decide +kernel
theorem dX12_told_103 : decode cX12_told 103 = .ok (.iconst 1, 1) := by decide +kernel
theorem dX12_told_104 : decode cX12_told 104 = .ok (.if_icmp .ne 7, 3) := by decide +kernel
theorem dX12_told_107 : decode cX12_told 107 = .ok (.iload_n 3, 1) := by decide +kernel
theorem dX12_told_108 : decode cX12_told 108 = .ok (.goto 4, 3) := by decide +kernel
theorem dX12_told_111 : decode cX12_told 111 = .ok (.iload_n 2, 1) := by decide +kernel
theorem dX12_told_112 : decode cX12_told 112 = .ok (.ireturn, 1) := by decide +kernel
theorem dX12_word_0 : decode cX12_word 0 = .ok (.aload_n 0, 1) := by decide +kernel
theorem dX12_word_1 : decode cX12_word 1 = .ok (.iconst 0, 1) := by decide +kernel
theorem dX12_word_2 : decode cX12_word 2 = .ok (.putfield 68, 3) := by decide +kernel
theorem dX12_word_5 : decode cX12_word 5 = .ok (.iload_n 1, 1) := by decide +kernel
theorem dX12_word_6 : decode cX12_word 6 = .ok (.ifCond .ge 7, 3) := by decide +kernel
theorem dX12_word_9 : decode cX12_word 9 = .ok (.ldc2_w 133, 3) := by decide +kernel
theorem dX12_word_12 : decode cX12_word 12 = .ok (.lreturn, 1) := by decide +kernel
theorem dX12_word_13 : decode cX12_word 13 = .ok (.aload_n 0, 1) := by decide +kernel
theorem dX12_word_14 : decode cX12_word 14 = .ok (.ldc2_w 133, 3) := by decide +kernel
theorem dX12_word_17 : decode cX12_word 17 = .ok (.invokevirtual 135, 3) := by decide +kernel
theorem dX12_word_20 : decode cX12_word 20 = .ok (.lstore_n 2, 1) := by decide +kernel
theorem dX12_word_21 : decode cX12_word 21 = .ok (.iconst 0, 1) := by decide +kernel
theorem dX12_word_22 : decode cX12_word 22 = .ok (.istore 4, 2) := by decide +kernel
theorem dX12_word_24 : decode cX12_word 24 = .ok (.iload 4, 2) := by decide +kernel
theorem dX12_word_26 : decode cX12_word 26 = .ok (.iload_n 1, 1) := by decide +kernel
theorem dX12_word_27 : decode cX12_word 27 = .ok (.if_icmp .ge 21, 3) := by decide +kernel
theorem dX12_word_30 : decode cX12_word 30 = .ok (.lload_n 2, 1) := by decide +kernel
theorem dX12_word_31 : decode cX12_word 31 = .ok (.lconst 0, 1) := by decide +kernel
theorem dX12_word_32 : decode cX12_word 32 = .ok (.lcmp, 1) := by decide +kernel
theorem dX12_word_33 : decode cX12_word 33 = .ok (.ifCond .lt 15, 3) := by decide +kernel
theorem dX12_word_36 : decode cX12_word 36 = .ok (.aload_n 0, 1) := by decide +kernel
theorem dX12_word_37 : decode cX12_word 37 = .ok (.lload_n 2, 1) := by decide +kernel
theorem dX12_word_38 : decode cX12_word 38 = .ok (.invokevirtual 135, 3) := by decide +kernel
theorem dX12_word_41 : decode cX12_word 41 = .ok (.lstore_n 2, 1) := by decide +kernel
theorem dX12_word_42 : decode cX12_word 42 = .ok (.iinc 4 1, 3) := by decide +kernel
theorem dX12_word_45 : decode cX12_word 45 = .ok (.goto (-21), 3) := by decide +kernel
theorem dX12_word_48 : decode cX12_word 48 = .ok (.lload_n 2, 1) := by decide +kernel
theorem dX12_word_49 : decode cX12_word 49 = .ok (.lconst 0, 1) := by decide +kernel
theorem dX12_word_50 : decode cX12_word 50 = .ok (.lcmp, 1) := by decide +kernel
theorem dX12_word_51 : decode cX12_word 51 = .ok (.ifCond .ge 7, 3) := by decide +kernel
theorem dX12_word_54 : decode cX12_word 54 = .ok (.ldc2_w 133, 3) := by decide +kernel
theorem dX12_word_57 : decode cX12_word 57 = .ok (.lreturn, 1) := by decide +kernel
theorem dX12_word_58 : decode cX12_word 58 = .ok (.lconst 0, 1) := by decide +kernel
theorem dX12_word_59 : decode cX12_word 59 = .ok (.lstore 4, 2) := by decide +kernel
theorem dX12_word_61 : decode cX12_word 61 = .ok (.iconst 0, 1) := by decide +kernel
theorem dX12_word_62 : decode cX12_word 62 = .ok (.istore 6, 2) := by decide +kernel
theorem dX12_word_64 : decode cX12_word 64 = .ok (.iload 6, 2) := by decide +kernel
theorem dX12_word_66 : decode cX12_word 66 = .ok (.bipush 12, 2) := by decide +kernel
theorem dX12_word_68 : decode cX12_word 68 = .ok (.if_icmp .ge 32, 3) := by decide +kernel
theorem dX12_word_71 : decode cX12_word 71 = .ok (.lload 4, 2) := by decide +kernel
theorem dX12_word_73 : decode cX12_word 73 = .ok (.lload_n 2, 1) := by decide +kernel
theorem dX12_word_74 : decode cX12_word 74 = .ok (.bipush 55, 2) := by decide +kernel
theorem dX12_word_76 : decode cX12_word 76 = .ok (.iconst 5, 1) := by decide +kernel
theorem dX12_word_77 : decode cX12_word 77 = .ok (.iload 6, 2) := by decide +kernel
theorem dX12_word_79 : decode cX12_word 79 = .ok (.imul, 1) := by decide +kernel
theorem dX12_word_80 : decode cX12_word 80 = .ok (.isub, 1) := by decide +kernel
theorem dX12_word_81 : decode cX12_word 81 = .ok (.lshr, 1) := by decide +kernel
theorem dX12_word_82 : decode cX12_word 82 = .ok (.ldc2_w 139, 3) := by decide +kernel
theorem dX12_word_85 : decode cX12_word 85 = .ok (.land, 1) := by decide +kernel
theorem dX12_word_86 : decode cX12_word 86 = .ok (.iconst 5, 1) := by decide +kernel
theorem dX12_word_87 : decode cX12_word 87 = .ok (.iload 6, 2) := by decide +kernel
theorem dX12_word_89 : decode cX12_word 89 = .ok (.imul, 1) := by decide +kernel
theorem dX12_word_90 : decode cX12_word 90 = .ok (.lshl, 1) := by decide +kernel
theorem dX12_word_91 : decode cX12_word 91 = .ok (.lor, 1) := by decide +kernel
theorem dX12_word_92 : decode cX12_word 92 = .ok (.lstore 4, 2) := by decide +kernel
theorem dX12_word_94 : decode cX12_word 94 = .ok (.iinc 6 1, 3) := by decide +kernel
theorem dX12_word_97 : decode cX12_word 97 = .ok (.goto (-33), 3) := by decide +kernel
theorem dX12_word_100 : decode cX12_word 100 = .ok (.lload 4, 2) := by decide +kernel
theorem dX12_word_102 : decode cX12_word 102 = .ok (.lreturn, 1) := by decide +kernel
theorem dX12_about_0 : decode cX12_about 0 = .ok (.aload_n 0, 1) := by decide +kernel
theorem dX12_about_1 : decode cX12_about 1 = .ok (.iload_n 1, 1) := by decide +kernel
theorem dX12_about_2 : decode cX12_about 2 = .ok (.ifCond .lt 8, 3) := by decide +kernel
theorem dX12_about_5 : decode cX12_about 5 = .ok (.iload_n 1, 1) := by decide +kernel
theorem dX12_about_6 : decode cX12_about 6 = .ok (.iconst 2, 1) := by decide +kernel
theorem dX12_about_7 : decode cX12_about 7 = .ok (.if_icmp .le 7, 3) := by decide +kernel
theorem dX12_about_10 : decode cX12_about 10 = .ok (.iconst 1, 1) := by decide +kernel
theorem dX12_about_11 : decode cX12_about 11 = .ok (.goto 4, 3) := by decide +kernel
theorem dX12_about_14 : decode cX12_about 14 = .ok (.iconst 0, 1) := by decide +kernel
theorem dX12_about_15 : decode cX12_about 15 = .ok (.putfield 68, 3) := by decide +kernel
theorem dX12_about_18 : decode cX12_about 18 = .ok (.aload_n 0, 1) := by decide +kernel
theorem dX12_about_19 : decode cX12_about 19 = .ok (.getfield 68, 3) := by decide +kernel
theorem dX12_about_22 : decode cX12_about 22 = .ok (.ifCond .le 5, 3) := by decide +kernel
theorem dX12_about_25 : decode cX12_about 25 = .ok (.iconst 0, 1) := by decide +kernel
theorem dX12_about_26 : decode cX12_about 26 = .ok (.ireturn, 1) := by decide +kernel
theorem dX12_about_27 : decode cX12_about 27 = .ok (.aload_n 0, 1) := by decide +kernel
theorem dX12_about_28 : decode cX12_about 28 = .ok (.invokevirtual 130, 3) := by decide +kernel
theorem dX12_about_31 : decode cX12_about 31 = .ok (.aload_n 0, 1) := by decide +kernel
theorem dX12_about_32 : decode cX12_about 32 = .ok (.getfield 71, 3) := by decide +kernel
theorem dX12_about_35 : decode cX12_about 35 = .ok (.ifCond .ne 5, 3) := by decide +kernel
theorem dX12_about_38 : decode cX12_about 38 = .ok (.iconst (-1), 1) := by decide +kernel
theorem dX12_about_39 : decode cX12_about 39 = .ok (.ireturn, 1) := by decide +kernel
theorem dX12_about_40 : decode cX12_about 40 = .ok (.iconst 0, 1) := by decide +kernel
theorem dX12_about_41 : decode cX12_about 41 = .ok (.istore_n 2, 1) := by decide +kernel
theorem dX12_about_42 : decode cX12_about 42 = .ok (.iconst 0, 1) := by decide +kernel
theorem dX12_about_43 : decode cX12_about 43 = .ok (.istore_n 3, 1) := by decide +kernel
theorem dX12_about_44 : decode cX12_about 44 = .ok (.iload_n 3, 1) := by decide +kernel
theorem dX12_about_45 : decode cX12_about 45 = .ok (.aload_n 0, 1) := by decide +kernel
theorem dX12_about_46 : decode cX12_about 46 = .ok (.getfield 85, 3) := by decide +kernel
theorem dX12_about_49 : decode cX12_about 49 = .ok (.if_icmp .ge 23, 3) := by decide +kernel
theorem dX12_about_52 : decode cX12_about 52 = .ok (.iload_n 2, 1) := by decide +kernel
theorem dX12_about_53 : decode cX12_about 53 = .ok (.aload_n 0, 1) := by decide +kernel
theorem dX12_about_54 : decode cX12_about 54 = .ok (.iload_n 3, 1) := by decide +kernel
theorem dX12_about_55 : decode cX12_about 55 = .ok (.aload_n 0, 1) := by decide +kernel
theorem dX12_about_56 : decode cX12_about 56 = .ok (.getfield 23, 3) := by decide +kernel
theorem dX12_about_59 : decode cX12_about 59 = .ok (.iconst 0, 1) := by decide +kernel
theorem dX12_about_60 : decode cX12_about 60 = .ok (.laload, 1) := by decide +kernel
theorem dX12_about_61 : decode cX12_about 61 = .ok (.invokevirtual 88, 3) := by decide +kernel
theorem dX12_about_64 : decode cX12_about 64 = .ok (.iadd, 1) := by decide +kernel
theorem dX12_about_65 : decode cX12_about 65 = .ok (.istore_n 2, 1) := by decide +kernel
theorem dX12_about_66 : decode cX12_about 66 = .ok (.iinc 3 1, 3) := by decide +kernel
theorem dX12_about_69 : decode cX12_about 69 = .ok (.goto (-25), 3) := by decide +kernel
theorem dX12_about_72 : decode cX12_about 72 = .ok (.iload_n 1, 1) := by decide +kernel
theorem dX12_about_73 : decode cX12_about 73 = .ok (.ifCond .ne 16, 3) := by decide +kernel
theorem dX12_about_76 : decode cX12_about 76 = .ok (.aload_n 0, 1) := by decide +kernel
theorem dX12_about_77 : decode cX12_about 77 = .ok (.aload_n 0, 1) := by decide +kernel
theorem dX12_about_78 : decode cX12_about 78 = .ok (.getfield 23, 3) := by decide +kernel
theorem dX12_about_81 : decode cX12_about 81 = .ok (.iconst 0, 1) := by decide +kernel
theorem dX12_about_82 : decode cX12_about 82 = .ok (.laload, 1) := by decide +kernel
theorem dX12_about_83 : decode cX12_about 83 = .ok (.invokevirtual 115, 3) := by decide +kernel
theorem dX12_about_86 : decode cX12_about 86 = .ok (.goto 22, 3) := by decide +kernel
theorem dX12_about_89 : decode cX12_about 89 = .ok (.iload_n 1, 1) := by decide +kernel
theorem dX12_about_90 : decode cX12_about 90 = .ok (.iconst 1, 1) := by decide +kernel
theorem dX12_about_91 : decode cX12_about 91 = .ok (.if_icmp .ne 16, 3) := by decide +kernel
theorem dX12_about_94 : decode cX12_about 94 = .ok (.aload_n 0, 1) := by decide +kernel
theorem dX12_about_95 : decode cX12_about 95 = .ok (.aload_n 0, 1) := by decide +kernel
theorem dX12_about_96 : decode cX12_about 96 = .ok (.getfield 23, 3) := by decide +kernel
theorem dX12_about_99 : decode cX12_about 99 = .ok (.iconst 0, 1) := by decide +kernel
theorem dX12_about_100 : decode cX12_about 100 = .ok (.laload, 1) := by decide +kernel
theorem dX12_about_101 : decode cX12_about 101 = .ok (.invokevirtual 141, 3) := by decide +kernel
theorem dX12_about_104 : decode cX12_about 104 = .ok (.goto 4, 3) := by decide +kernel
theorem dX12_about_107 : decode cX12_about 107 = .ok (.iload_n 2, 1) := by decide +kernel
theorem dX12_about_108 : decode cX12_about 108 = .ok (.ireturn, 1) := by decide +kernel
theorem dX12_byteAt_0 : decode cX12_byteAt 0 = .ok (.iload_n 1, 1) := by decide +kernel
theorem dX12_byteAt_1 : decode cX12_byteAt 1 = .ok (.aload_n 0, 1) := by decide +kernel
theorem dX12_byteAt_2 : decode cX12_byteAt 2 = .ok (.getfield 74, 3) := by decide +kernel
theorem dX12_byteAt_5 : decode cX12_byteAt 5 = .ok (.if_icmp .ge 12, 3) := by decide +kernel
theorem dX12_byteAt_8 : decode cX12_byteAt 8 = .ok (.aload_n 0, 1) := by decide +kernel
theorem dX12_byteAt_9 : decode cX12_byteAt 9 = .ok (.getfield 7, 3) := by decide +kernel
theorem dX12_byteAt_12 : decode cX12_byteAt 12 = .ok (.iload_n 1, 1) := by decide +kernel
theorem dX12_byteAt_13 : decode cX12_byteAt 13 = .ok (.iaload, 1) := by decide +kernel
theorem dX12_byteAt_14 : decode cX12_byteAt 14 = .ok (.goto 4, 3) := by decide +kernel
theorem dX12_byteAt_17 : decode cX12_byteAt 17 = .ok (.iconst (-1), 1) := by decide +kernel
theorem dX12_byteAt_18 : decode cX12_byteAt 18 = .ok (.ireturn, 1) := by decide +kernel
theorem dX12_isBlank_0 : decode cX12_isBlank 0 = .ok (.aload_n 0, 1) := by decide +kernel
theorem dX12_isBlank_1 : decode cX12_isBlank 1 = .ok (.getfield 144, 3) := by decide +kernel
theorem dX12_isBlank_4 : decode cX12_isBlank 4 = .ok (.aload_n 0, 1) := by decide +kernel
theorem dX12_isBlank_5 : decode cX12_isBlank 5 = .ok (.getfield 74, 3) := by decide +kernel
theorem dX12_isBlank_8 : decode cX12_isBlank 8 = .ok (.if_icmp .ge 21, 3) := by decide +kernel
theorem dX12_isBlank_11 : decode cX12_isBlank 11 = .ok (.aload_n 0, 1) := by decide +kernel
theorem dX12_isBlank_12 : decode cX12_isBlank 12 = .ok (.getfield 7, 3) := by decide +kernel
theorem dX12_isBlank_15 : decode cX12_isBlank 15 = .ok (.aload_n 0, 1) := by decide +kernel
theorem dX12_isBlank_16 : decode cX12_isBlank 16 = .ok (.getfield 144, 3) := by decide +kernel
theorem dX12_isBlank_19 : decode cX12_isBlank 19 = .ok (.iaload, 1) := by decide +kernel
theorem dX12_isBlank_20 : decode cX12_isBlank 20 = .ok (.bipush 32, 2) := by decide +kernel
theorem dX12_isBlank_22 : decode cX12_isBlank 22 = .ok (.if_icmp .gt 7, 3) := by decide +kernel
theorem dX12_isBlank_25 : decode cX12_isBlank 25 = .ok (.iconst 1, 1) := by decide +kernel
theorem dX12_isBlank_26 : decode cX12_isBlank 26 = .ok (.goto 4, 3) := by decide +kernel
theorem dX12_isBlank_29 : decode cX12_isBlank 29 = .ok (.iconst 0, 1) := by decide +kernel
theorem dX12_isBlank_30 : decode cX12_isBlank 30 = .ok (.ireturn, 1) := by decide +kernel
theorem dX12_skip_0 : decode cX12_skip 0 = .ok (.aload_n 0, 1) := by decide +kernel
theorem dX12_skip_1 : decode cX12_skip 1 = .ok (.invokevirtual 147, 3) := by decide +kernel
theorem dX12_skip_4 : decode cX12_skip 4 = .ok (.ifCond .eq 16, 3) := by decide +kernel
theorem dX12_skip_7 : decode cX12_skip 7 = .ok (.aload_n 0, 1) := by decide +kernel
theorem dX12_skip_8 : decode cX12_skip 8 = .ok (.dup, 1) := by decide +kernel
theorem dX12_skip_9 : decode cX12_skip 9 = .ok (.getfield 144, 3) := by decide +kernel
theorem dX12_skip_12 : decode cX12_skip 12 = .ok (.iconst 1, 1) := by decide +kernel
theorem dX12_skip_13 : decode cX12_skip 13 = .ok (.iadd, 1) := by decide +kernel
theorem dX12_skip_14 : decode cX12_skip 14 = .ok (.putfield 144, 3) := by decide +kernel
theorem dX12_skip_17 : decode cX12_skip 17 = .ok (.goto (-17), 3) := by decide +kernel
theorem dX12_skip_20 : decode cX12_skip 20 = .ok (.return_, 1) := by decide +kernel
theorem dX12_bad_0 : decode cX12_bad 0 = .ok (.aload_n 0, 1) := by decide +kernel
theorem dX12_bad_1 : decode cX12_bad 1 = .ok (.iload_n 1, 1) := by decide +kernel
theorem dX12_bad_2 : decode cX12_bad 2 = .ok (.ifCond .eq 10, 3) := by decide +kernel
theorem dX12_bad_5 : decode cX12_bad 5 = .ok (.aload_n 0, 1) := by decide +kernel
theorem dX12_bad_6 : decode cX12_bad 6 = .ok (.getfield 151, 3) := by decide +kernel
theorem dX12_bad_9 : decode cX12_bad 9 = .ok (.goto 4, 3) := by decide +kernel
theorem dX12_bad_12 : decode cX12_bad 12 = .ok (.iload_n 2, 1) := by decide +kernel
theorem dX12_bad_13 : decode cX12_bad 13 = .ok (.putfield 151, 3) := by decide +kernel
theorem dX12_bad_16 : decode cX12_bad 16 = .ok (.aload_n 0, 1) := by decide +kernel
theorem dX12_bad_17 : decode cX12_bad 17 = .ok (.iload_n 1, 1) := by decide +kernel
theorem dX12_bad_18 : decode cX12_bad 18 = .ok (.ifCond .eq 10, 3) := by decide +kernel
theorem dX12_bad_21 : decode cX12_bad 21 = .ok (.aload_n 0, 1) := by decide +kernel
theorem dX12_bad_22 : decode cX12_bad 22 = .ok (.getfield 42, 3) := by decide +kernel
theorem dX12_bad_25 : decode cX12_bad 25 = .ok (.goto 7, 3) := by decide +kernel
theorem dX12_bad_28 : decode cX12_bad 28 = .ok (.aload_n 0, 1) := by decide +kernel
theorem dX12_bad_29 : decode cX12_bad 29 = .ok (.getfield 144, 3) := by decide +kernel
theorem dX12_bad_32 : decode cX12_bad 32 = .ok (.putfield 42, 3) := by decide +kernel
theorem dX12_bad_35 : decode cX12_bad 35 = .ok (.iload_n 1, 1) := by decide +kernel
theorem dX12_bad_36 : decode cX12_bad 36 = .ok (.ifCond .ne 7, 3) := by decide +kernel
theorem dX12_bad_39 : decode cX12_bad 39 = .ok (.iconst 1, 1) := by decide +kernel
theorem dX12_bad_40 : decode cX12_bad 40 = .ok (.goto 4, 3) := by decide +kernel
theorem dX12_bad_43 : decode cX12_bad 43 = .ok (.iconst 0, 1) := by decide +kernel
theorem dX12_bad_44 : decode cX12_bad 44 = .ok (.ireturn, 1) := by decide +kernel
theorem dX12_isTermBad_0 : decode cX12_isTermBad 0 = .ok (.aload_n 0, 1) := by decide +kernel
theorem dX12_isTermBad_1 : decode cX12_isTermBad 1 = .ok (.getfield 154, 3) := by decide +kernel
theorem dX12_isTermBad_4 : decode cX12_isTermBad 4 = .ok (.istore_n 1, 1) := by decide +kernel
theorem dX12_isTermBad_5 : decode cX12_isTermBad 5 = .ok (.aload_n 0, 1) := by decide +kernel
theorem dX12_isTermBad_6 : decode cX12_isTermBad 6 = .ok (.getfield 36, 3) := by decide +kernel
theorem dX12_isTermBad_9 : decode cX12_isTermBad 9 = .ok (.iload_n 1, 1) := by decide +kernel
theorem dX12_isTermBad_10 : decode cX12_isTermBad 10 = .ok (.aload_n 0, 1) := by decide +kernel
theorem dX12_isTermBad_11 : decode cX12_isTermBad 11 = .ok (.aload_n 0, 1) := by decide +kernel
theorem dX12_isTermBad_12 : decode cX12_isTermBad 12 = .ok (.getfield 144, 3) := by decide +kernel
theorem dX12_isTermBad_15 : decode cX12_isTermBad 15 = .ok (.invokevirtual 157, 3) := by decide +kernel
theorem dX12_isTermBad_18 : decode cX12_isTermBad 18 = .ok (.bipush 43, 2) := by decide +kernel
theorem dX12_isTermBad_20 : decode cX12_isTermBad 20 = .ok (.if_icmp .ne 7, 3) := by decide +kernel
theorem dX12_isTermBad_23 : decode cX12_isTermBad 23 = .ok (.iconst 1, 1) := by decide +kernel
theorem dX12_isTermBad_24 : decode cX12_isTermBad 24 = .ok (.goto 21, 3) := by decide +kernel
theorem dX12_isTermBad_27 : decode cX12_isTermBad 27 = .ok (.aload_n 0, 1) := by decide +kernel
theorem dX12_isTermBad_28 : decode cX12_isTermBad 28 = .ok (.aload_n 0, 1) := by decide +kernel
theorem dX12_isTermBad_29 : decode cX12_isTermBad 29 = .ok (.getfield 144, 3) := by decide +kernel
theorem dX12_isTermBad_32 : decode cX12_isTermBad 32 = .ok (.invokevirtual 157, 3) := by decide +kernel
theorem dX12_isTermBad_35 : decode cX12_isTermBad 35 = .ok (.bipush 45, 2) := by decide +kernel
theorem dX12_isTermBad_37 : decode cX12_isTermBad 37 = .ok (.if_icmp .ne 7, 3) := by decide +kernel
theorem dX12_isTermBad_40 : decode cX12_isTermBad 40 = .ok (.iconst 2, 1) := by decide +kernel
theorem dX12_isTermBad_41 : decode cX12_isTermBad 41 = .ok (.goto 4, 3) := by decide +kernel
theorem dX12_isTermBad_44 : decode cX12_isTermBad 44 = .ok (.iconst 0, 1) := by decide +kernel
theorem dX12_isTermBad_45 : decode cX12_isTermBad 45 = .ok (.iastore, 1) := by decide +kernel
theorem dX12_isTermBad_46 : decode cX12_isTermBad 46 = .ok (.aload_n 0, 1) := by decide +kernel
theorem dX12_isTermBad_47 : decode cX12_isTermBad 47 = .ok (.aload_n 0, 1) := by decide +kernel
theorem dX12_isTermBad_48 : decode cX12_isTermBad 48 = .ok (.getfield 36, 3) := by decide +kernel
theorem dX12_isTermBad_51 : decode cX12_isTermBad 51 = .ok (.iload_n 1, 1) := by decide +kernel
theorem dX12_isTermBad_52 : decode cX12_isTermBad 52 = .ok (.iaload, 1) := by decide +kernel
theorem dX12_isTermBad_53 : decode cX12_isTermBad 53 = .ok (.ifCond .le 12, 3) := by decide +kernel
theorem dX12_isTermBad_56 : decode cX12_isTermBad 56 = .ok (.aload_n 0, 1) := by decide +kernel
theorem dX12_isTermBad_57 : decode cX12_isTermBad 57 = .ok (.getfield 144, 3) := by decide +kernel
theorem dX12_isTermBad_60 : decode cX12_isTermBad 60 = .ok (.iconst 1, 1) := by decide +kernel
theorem dX12_isTermBad_61 : decode cX12_isTermBad 61 = .ok (.iadd, 1) := by decide +kernel
theorem dX12_isTermBad_62 : decode cX12_isTermBad 62 = .ok (.goto 7, 3) := by decide +kernel
theorem dX12_isTermBad_65 : decode cX12_isTermBad 65 = .ok (.aload_n 0, 1) := by decide +kernel
theorem dX12_isTermBad_66 : decode cX12_isTermBad 66 = .ok (.getfield 144, 3) := by decide +kernel
theorem dX12_isTermBad_69 : decode cX12_isTermBad 69 = .ok (.putfield 144, 3) := by decide +kernel
theorem dX12_isTermBad_72 : decode cX12_isTermBad 72 = .ok (.aload_n 0, 1) := by decide +kernel
theorem dX12_isTermBad_73 : decode cX12_isTermBad 73 = .ok (.getfield 26, 3) := by decide +kernel
theorem dX12_isTermBad_76 : decode cX12_isTermBad 76 = .ok (.iload_n 1, 1) := by decide +kernel
theorem dX12_isTermBad_77 : decode cX12_isTermBad 77 = .ok (.lconst 0, 1) := by decide +kernel
theorem dX12_isTermBad_78 : decode cX12_isTermBad 78 = .ok (.lastore, 1) := by decide +kernel
theorem dX12_isTermBad_79 : decode cX12_isTermBad 79 = .ok (.iconst 0, 1) := by decide +kernel
theorem dX12_isTermBad_80 : decode cX12_isTermBad 80 = .ok (.istore_n 2, 1) := by decide +kernel
theorem dX12_isTermBad_81 : decode cX12_isTermBad 81 = .ok (.aload_n 0, 1) := by decide +kernel
theorem dX12_isTermBad_82 : decode cX12_isTermBad 82 = .ok (.aload_n 0, 1) := by decide +kernel
theorem dX12_isTermBad_83 : decode cX12_isTermBad 83 = .ok (.getfield 144, 3) := by decide +kernel
theorem dX12_isTermBad_86 : decode cX12_isTermBad 86 = .ok (.aload_n 0, 1) := by decide +kernel
theorem dX12_isTermBad_87 : decode cX12_isTermBad 87 = .ok (.getfield 74, 3) := by decide +kernel
theorem dX12_isTermBad_90 : decode cX12_isTermBad 90 = .ok (.if_icmp .ge 22, 3) := by decide +kernel
theorem dX12_isTermBad_93 : decode cX12_isTermBad 93 = .ok (.aload_n 0, 1) := by decide +kernel
theorem dX12_isTermBad_94 : decode cX12_isTermBad 94 = .ok (.getfield 7, 3) := by decide +kernel
theorem dX12_isTermBad_97 : decode cX12_isTermBad 97 = .ok (.aload_n 0, 1) := by decide +kernel
theorem dX12_isTermBad_98 : decode cX12_isTermBad 98 = .ok (.getfield 144, 3) := by decide +kernel
theorem dX12_isTermBad_101 : decode cX12_isTermBad 101 = .ok (.iaload, 1) := by decide +kernel
theorem dX12_isTermBad_102 : decode cX12_isTermBad 102 = .ok (.invokestatic 77, 3) := by decide +kernel
theorem dX12_isTermBad_105 : decode cX12_isTermBad 105 = .ok (.ifCond .le 7, 3) := by decide +kernel
theorem dX12_isTermBad_108 : decode cX12_isTermBad 108 = .ok (.iconst 1, 1) := by decide +kernel
theorem dX12_isTermBad_109 : decode cX12_isTermBad 109 = .ok (.goto 4, 3) := by decide +kernel
theorem dX12_isTermBad_112 : decode cX12_isTermBad 112 = .ok (.iconst 0, 1) := by decide +kernel
theorem dX12_isTermBad_113 : decode cX12_isTermBad 113 = .ok (.iconst 1, 1) := by decide +kernel
theorem dX12_isTermBad_114 : decode cX12_isTermBad 114 = .ok (.invokevirtual 160, 3) := by decide +kernel
theorem dX12_isTermBad_117 : decode cX12_isTermBad 117 = .ok (.ifCond .eq 5, 3) := by decide +kernel
theorem dX12_isTermBad_120 : decode cX12_isTermBad 120 = .ok (.iconst 1, 1) := by decide +kernel
theorem dX12_isTermBad_121 : decode cX12_isTermBad 121 = .ok (.ireturn, 1) := by decide +kernel
theorem dX12_isTermBad_122 : decode cX12_isTermBad 122 = .ok (.aload_n 0, 1) := by decide +kernel
theorem dX12_isTermBad_123 : decode cX12_isTermBad 123 = .ok (.getfield 144, 3) := by decide +kernel
theorem dX12_isTermBad_126 : decode cX12_isTermBad 126 = .ok (.aload_n 0, 1) := by decide +kernel
theorem dX12_isTermBad_127 : decode cX12_isTermBad 127 = .ok (.getfield 74, 3) := by decide +kernel
theorem dX12_isTermBad_130 : decode cX12_isTermBad 130 = .ok (.if_icmp .ge 83, 3) := by decide +kernel
theorem dX12_isTermBad_133 : decode cX12_isTermBad 133 = .ok (.aload_n 0, 1) := by decide +kernel
theorem dX12_isTermBad_134 : decode cX12_isTermBad 134 = .ok (.getfield 7, 3) := by decide +kernel
theorem dX12_isTermBad_137 : decode cX12_isTermBad 137 = .ok (.aload_n 0, 1) := by decide +kernel
theorem dX12_isTermBad_138 : decode cX12_isTermBad 138 = .ok (.getfield 144, 3) := by decide +kernel
theorem dX12_isTermBad_141 : decode cX12_isTermBad 141 = .ok (.iaload, 1) := by decide +kernel
theorem dX12_isTermBad_142 : decode cX12_isTermBad 142 = .ok (.invokestatic 77, 3) := by decide +kernel
theorem dX12_isTermBad_145 : decode cX12_isTermBad 145 = .ok (.ifCond .le 68, 3) := by decide +kernel
theorem dX12_isTermBad_148 : decode cX12_isTermBad 148 = .ok (.aload_n 0, 1) := by decide +kernel
theorem dX12_isTermBad_149 : decode cX12_isTermBad 149 = .ok (.iload_n 2, 1) := by decide +kernel
theorem dX12_isTermBad_150 : decode cX12_isTermBad 150 = .ok (.bipush 12, 2) := by decide +kernel
theorem dX12_isTermBad_152 : decode cX12_isTermBad 152 = .ok (.if_icmp .ge 7, 3) := by decide +kernel
theorem dX12_isTermBad_155 : decode cX12_isTermBad 155 = .ok (.iconst 1, 1) := by decide +kernel
theorem dX12_isTermBad_156 : decode cX12_isTermBad 156 = .ok (.goto 4, 3) := by decide +kernel
theorem dX12_isTermBad_159 : decode cX12_isTermBad 159 = .ok (.iconst 0, 1) := by decide +kernel
theorem dX12_isTermBad_160 : decode cX12_isTermBad 160 = .ok (.iconst 2, 1) := by decide +kernel
theorem dX12_isTermBad_161 : decode cX12_isTermBad 161 = .ok (.invokevirtual 160, 3) := by decide +kernel
theorem dX12_isTermBad_164 : decode cX12_isTermBad 164 = .ok (.ifCond .eq 5, 3) := by decide +kernel
theorem dX12_isTermBad_167 : decode cX12_isTermBad 167 = .ok (.iconst 1, 1) := by decide +kernel
theorem dX12_isTermBad_168 : decode cX12_isTermBad 168 = .ok (.ireturn, 1) := by decide +kernel
theorem dX12_isTermBad_169 : decode cX12_isTermBad 169 = .ok (.aload_n 0, 1) := by decide +kernel
theorem dX12_isTermBad_170 : decode cX12_isTermBad 170 = .ok (.getfield 26, 3) := by decide +kernel
theorem dX12_isTermBad_173 : decode cX12_isTermBad 173 = .ok (.iload_n 1, 1) := by decide +kernel
theorem dX12_isTermBad_174 : decode cX12_isTermBad 174 = .ok (.aload_n 0, 1) := by decide +kernel
theorem dX12_isTermBad_175 : decode cX12_isTermBad 175 = .ok (.getfield 26, 3) := by decide +kernel
theorem dX12_isTermBad_178 : decode cX12_isTermBad 178 = .ok (.iload_n 1, 1) := by decide +kernel
theorem dX12_isTermBad_179 : decode cX12_isTermBad 179 = .ok (.laload, 1) := by decide +kernel
theorem dX12_isTermBad_180 : decode cX12_isTermBad 180 = .ok (.iload_n 2, 1) := by decide +kernel
theorem dX12_isTermBad_181 : decode cX12_isTermBad 181 = .ok (.aload_n 0, 1) := by decide +kernel
theorem dX12_isTermBad_182 : decode cX12_isTermBad 182 = .ok (.getfield 7, 3) := by decide +kernel
theorem dX12_isTermBad_185 : decode cX12_isTermBad 185 = .ok (.aload_n 0, 1) := by decide +kernel
theorem dX12_isTermBad_186 : decode cX12_isTermBad 186 = .ok (.getfield 144, 3) := by decide +kernel
theorem dX12_isTermBad_189 : decode cX12_isTermBad 189 = .ok (.iaload, 1) := by decide +kernel
theorem dX12_isTermBad_190 : decode cX12_isTermBad 190 = .ok (.invokestatic 77, 3) := by decide +kernel
theorem dX12_isTermBad_193 : decode cX12_isTermBad 193 = .ok (.invokestatic 81, 3) := by decide +kernel
theorem dX12_isTermBad_196 : decode cX12_isTermBad 196 = .ok (.lastore, 1) := by decide +kernel
theorem dX12_isTermBad_197 : decode cX12_isTermBad 197 = .ok (.iinc 2 1, 3) := by decide +kernel
theorem dX12_isTermBad_200 : decode cX12_isTermBad 200 = .ok (.aload_n 0, 1) := by decide +kernel
theorem dX12_isTermBad_201 : decode cX12_isTermBad 201 = .ok (.dup, 1) := by decide +kernel
theorem dX12_isTermBad_202 : decode cX12_isTermBad 202 = .ok (.getfield 144, 3) := by decide +kernel
theorem dX12_isTermBad_205 : decode cX12_isTermBad 205 = .ok (.iconst 1, 1) := by decide +kernel
theorem dX12_isTermBad_206 : decode cX12_isTermBad 206 = .ok (.iadd, 1) := by decide +kernel
theorem dX12_isTermBad_207 : decode cX12_isTermBad 207 = .ok (.putfield 144, 3) := by decide +kernel
theorem dX12_isTermBad_210 : decode cX12_isTermBad 210 = .ok (.goto (-88), 3) := by decide +kernel
theorem dX12_isTermBad_213 : decode cX12_isTermBad 213 = .ok (.aload_n 0, 1) := by decide +kernel
theorem dX12_isTermBad_214 : decode cX12_isTermBad 214 = .ok (.getfield 29, 3) := by decide +kernel
theorem dX12_isTermBad_217 : decode cX12_isTermBad 217 = .ok (.iload_n 1, 1) := by decide +kernel
theorem dX12_isTermBad_218 : decode cX12_isTermBad 218 = .ok (.iload_n 2, 1) := by decide +kernel
theorem dX12_isTermBad_219 : decode cX12_isTermBad 219 = .ok (.iastore, 1) := by decide +kernel
theorem dX12_isTermBad_220 : decode cX12_isTermBad 220 = .ok (.aload_n 0, 1) := by decide +kernel
theorem dX12_isTermBad_221 : decode cX12_isTermBad 221 = .ok (.getfield 32, 3) := by decide +kernel
theorem dX12_isTermBad_224 : decode cX12_isTermBad 224 = .ok (.iload_n 1, 1) := by decide +kernel
theorem dX12_isTermBad_225 : decode cX12_isTermBad 225 = .ok (.aload_n 0, 1) := by decide +kernel
theorem dX12_isTermBad_226 : decode cX12_isTermBad 226 = .ok (.aload_n 0, 1) := by decide +kernel
theorem dX12_isTermBad_227 : decode cX12_isTermBad 227 = .ok (.getfield 144, 3) := by decide +kernel
theorem dX12_isTermBad_230 : decode cX12_isTermBad 230 = .ok (.invokevirtual 157, 3) := by decide +kernel
theorem dX12_isTermBad_233 : decode cX12_isTermBad 233 = .ok (.bipush 42, 2) := by decide +kernel
theorem dX12_isTermBad_235 : decode cX12_isTermBad 235 = .ok (.if_icmp .ne 7, 3) := by decide +kernel
theorem dX12_isTermBad_238 : decode cX12_isTermBad 238 = .ok (.iconst 1, 1) := by decide +kernel
theorem dX12_isTermBad_239 : decode cX12_isTermBad 239 = .ok (.goto 4, 3) := by decide +kernel
theorem dX12_isTermBad_242 : decode cX12_isTermBad 242 = .ok (.iconst 0, 1) := by decide +kernel
theorem dX12_isTermBad_243 : decode cX12_isTermBad 243 = .ok (.bastore, 1) := by decide +kernel
theorem dX12_isTermBad_244 : decode cX12_isTermBad 244 = .ok (.aload_n 0, 1) := by decide +kernel
theorem dX12_isTermBad_245 : decode cX12_isTermBad 245 = .ok (.aload_n 0, 1) := by decide +kernel
theorem dX12_isTermBad_246 : decode cX12_isTermBad 246 = .ok (.getfield 32, 3) := by decide +kernel
theorem dX12_isTermBad_249 : decode cX12_isTermBad 249 = .ok (.iload_n 1, 1) := by decide +kernel
theorem dX12_isTermBad_250 : decode cX12_isTermBad 250 = .ok (.baload, 1) := by decide +kernel
theorem dX12_isTermBad_251 : decode cX12_isTermBad 251 = .ok (.ifCond .eq 12, 3) := by decide +kernel
theorem dX12_isTermBad_254 : decode cX12_isTermBad 254 = .ok (.aload_n 0, 1) := by decide +kernel
theorem dX12_isTermBad_255 : decode cX12_isTermBad 255 = .ok (.getfield 144, 3) := by decide +kernel
theorem dX12_isTermBad_258 : decode cX12_isTermBad 258 = .ok (.iconst 1, 1) := by decide +kernel
theorem dX12_isTermBad_259 : decode cX12_isTermBad 259 = .ok (.iadd, 1) := by decide +kernel
theorem dX12_isTermBad_260 : decode cX12_isTermBad 260 = .ok (.goto 7, 3) := by decide +kernel
theorem dX12_isTermBad_263 : decode cX12_isTermBad 263 = .ok (.aload_n 0, 1) := by decide +kernel
theorem dX12_isTermBad_264 : decode cX12_isTermBad 264 = .ok (.getfield 144, 3) := by decide +kernel
theorem dX12_isTermBad_267 : decode cX12_isTermBad 267 = .ok (.putfield 144, 3) := by decide +kernel
theorem dX12_isTermBad_270 : decode cX12_isTermBad 270 = .ok (.aload_n 0, 1) := by decide +kernel
theorem dX12_isTermBad_271 : decode cX12_isTermBad 271 = .ok (.getfield 39, 3) := by decide +kernel
theorem dX12_isTermBad_274 : decode cX12_isTermBad 274 = .ok (.iload_n 1, 1) := by decide +kernel
theorem dX12_isTermBad_275 : decode cX12_isTermBad 275 = .ok (.iconst 1, 1) := by decide +kernel
theorem dX12_isTermBad_276 : decode cX12_isTermBad 276 = .ok (.iastore, 1) := by decide +kernel
theorem dX12_isTermBad_277 : decode cX12_isTermBad 277 = .ok (.aload_n 0, 1) := by decide +kernel
theorem dX12_isTermBad_278 : decode cX12_isTermBad 278 = .ok (.aload_n 0, 1) := by decide +kernel
theorem dX12_isTermBad_279 : decode cX12_isTermBad 279 = .ok (.getfield 144, 3) := by decide +kernel
theorem dX12_isTermBad_282 : decode cX12_isTermBad 282 = .ok (.invokevirtual 157, 3) := by decide +kernel
theorem dX12_isTermBad_285 : decode cX12_isTermBad 285 = .ok (.bipush 94, 2) := by decide +kernel
theorem dX12_isTermBad_287 : decode cX12_isTermBad 287 = .ok (.if_icmp .ne 82, 3) := by decide +kernel
theorem dX12_isTermBad_290 : decode cX12_isTermBad 290 = .ok (.aload_n 0, 1) := by decide +kernel
theorem dX12_isTermBad_291 : decode cX12_isTermBad 291 = .ok (.dup, 1) := by decide +kernel
theorem dX12_isTermBad_292 : decode cX12_isTermBad 292 = .ok (.getfield 144, 3) := by decide +kernel
theorem dX12_isTermBad_295 : decode cX12_isTermBad 295 = .ok (.iconst 1, 1) := by decide +kernel
theorem dX12_isTermBad_296 : decode cX12_isTermBad 296 = .ok (.iadd, 1) := by decide +kernel
theorem dX12_isTermBad_297 : decode cX12_isTermBad 297 = .ok (.putfield 144, 3) := by decide +kernel
theorem dX12_isTermBad_300 : decode cX12_isTermBad 300 = .ok (.aload_n 0, 1) := by decide +kernel
theorem dX12_isTermBad_301 : decode cX12_isTermBad 301 = .ok (.aload_n 0, 1) := by decide +kernel
theorem dX12_isTermBad_302 : decode cX12_isTermBad 302 = .ok (.aload_n 0, 1) := by decide +kernel
theorem dX12_isTermBad_303 : decode cX12_isTermBad 303 = .ok (.getfield 144, 3) := by decide +kernel
theorem dX12_isTermBad_306 : decode cX12_isTermBad 306 = .ok (.invokevirtual 157, 3) := by decide +kernel
theorem dX12_isTermBad_309 : decode cX12_isTermBad 309 = .ok (.bipush 49, 2) := by decide +kernel
theorem dX12_isTermBad_311 : decode cX12_isTermBad 311 = .ok (.if_icmp .lt 20, 3) := by decide +kernel
theorem dX12_isTermBad_314 : decode cX12_isTermBad 314 = .ok (.aload_n 0, 1) := by decide +kernel
theorem dX12_isTermBad_315 : decode cX12_isTermBad 315 = .ok (.aload_n 0, 1) := by decide +kernel
theorem dX12_isTermBad_316 : decode cX12_isTermBad 316 = .ok (.getfield 144, 3) := by decide +kernel
theorem dX12_isTermBad_319 : decode cX12_isTermBad 319 = .ok (.invokevirtual 157, 3) := by decide +kernel
theorem dX12_isTermBad_322 : decode cX12_isTermBad 322 = .ok (.bipush 57, 2) := by decide +kernel
theorem dX12_isTermBad_324 : decode cX12_isTermBad 324 = .ok (.if_icmp .gt 7, 3) := by decide +kernel
theorem dX12_isTermBad_327 : decode cX12_isTermBad 327 = .ok (.iconst 1, 1) := by decide +kernel
theorem dX12_isTermBad_328 : decode cX12_isTermBad 328 = .ok (.goto 4, 3) := by decide +kernel
theorem dX12_isTermBad_331 : decode cX12_isTermBad 331 = .ok (.iconst 0, 1) := by decide +kernel
theorem dX12_isTermBad_332 : decode cX12_isTermBad 332 = .ok (.iconst 1, 1) := by decide +kernel
theorem dX12_isTermBad_333 : decode cX12_isTermBad 333 = .ok (.invokevirtual 160, 3) := by decide +kernel
theorem dX12_isTermBad_336 : decode cX12_isTermBad 336 = .ok (.ifCond .eq 5, 3) := by decide +kernel
theorem dX12_isTermBad_339 : decode cX12_isTermBad 339 = .ok (.iconst 1, 1) := by decide +kernel
theorem dX12_isTermBad_340 : decode cX12_isTermBad 340 = .ok (.ireturn, 1) := by decide +kernel
theorem dX12_isTermBad_341 : decode cX12_isTermBad 341 = .ok (.aload_n 0, 1) := by decide +kernel
theorem dX12_isTermBad_342 : decode cX12_isTermBad 342 = .ok (.getfield 39, 3) := by decide +kernel
theorem dX12_isTermBad_345 : decode cX12_isTermBad 345 = .ok (.iload_n 1, 1) := by decide +kernel
theorem dX12_isTermBad_346 : decode cX12_isTermBad 346 = .ok (.aload_n 0, 1) := by decide +kernel
theorem dX12_isTermBad_347 : decode cX12_isTermBad 347 = .ok (.getfield 7, 3) := by decide +kernel
theorem dX12_isTermBad_350 : decode cX12_isTermBad 350 = .ok (.aload_n 0, 1) := by decide +kernel
theorem dX12_isTermBad_351 : decode cX12_isTermBad 351 = .ok (.getfield 144, 3) := by decide +kernel
theorem dX12_isTermBad_354 : decode cX12_isTermBad 354 = .ok (.iaload, 1) := by decide +kernel
theorem dX12_isTermBad_355 : decode cX12_isTermBad 355 = .ok (.bipush 48, 2) := by decide +kernel
theorem dX12_isTermBad_357 : decode cX12_isTermBad 357 = .ok (.isub, 1) := by decide +kernel
theorem dX12_isTermBad_358 : decode cX12_isTermBad 358 = .ok (.iastore, 1) := by decide +kernel
theorem dX12_isTermBad_359 : decode cX12_isTermBad 359 = .ok (.aload_n 0, 1) := by decide +kernel
theorem dX12_isTermBad_360 : decode cX12_isTermBad 360 = .ok (.dup, 1) := by decide +kernel
theorem dX12_isTermBad_361 : decode cX12_isTermBad 361 = .ok (.getfield 144, 3) := by decide +kernel
theorem dX12_isTermBad_364 : decode cX12_isTermBad 364 = .ok (.iconst 1, 1) := by decide +kernel
theorem dX12_isTermBad_365 : decode cX12_isTermBad 365 = .ok (.iadd, 1) := by decide +kernel
theorem dX12_isTermBad_366 : decode cX12_isTermBad 366 = .ok (.putfield 144, 3) := by decide +kernel
theorem dX12_isTermBad_369 : decode cX12_isTermBad 369 = .ok (.aload_n 0, 1) := by decide +kernel
theorem dX12_isTermBad_370 : decode cX12_isTermBad 370 = .ok (.dup, 1) := by decide +kernel
theorem dX12_isTermBad_371 : decode cX12_isTermBad 371 = .ok (.getfield 154, 3) := by decide +kernel
theorem dX12_isTermBad_374 : decode cX12_isTermBad 374 = .ok (.iconst 1, 1) := by decide +kernel
theorem dX12_isTermBad_375 : decode cX12_isTermBad 375 = .ok (.iadd, 1) := by decide +kernel
theorem dX12_isTermBad_376 : decode cX12_isTermBad 376 = .ok (.putfield 154, 3) := by decide +kernel
theorem dX12_isTermBad_379 : decode cX12_isTermBad 379 = .ok (.aload_n 0, 1) := by decide +kernel
theorem dX12_isTermBad_380 : decode cX12_isTermBad 380 = .ok (.aload_n 0, 1) := by decide +kernel
theorem dX12_isTermBad_381 : decode cX12_isTermBad 381 = .ok (.getfield 144, 3) := by decide +kernel
theorem dX12_isTermBad_384 : decode cX12_isTermBad 384 = .ok (.aload_n 0, 1) := by decide +kernel
theorem dX12_isTermBad_385 : decode cX12_isTermBad 385 = .ok (.getfield 74, 3) := by decide +kernel
theorem dX12_isTermBad_388 : decode cX12_isTermBad 388 = .ok (.if_icmp .eq 10, 3) := by decide +kernel
theorem dX12_isTermBad_391 : decode cX12_isTermBad 391 = .ok (.aload_n 0, 1) := by decide +kernel
theorem dX12_isTermBad_392 : decode cX12_isTermBad 392 = .ok (.invokevirtual 147, 3) := by decide +kernel
theorem dX12_isTermBad_395 : decode cX12_isTermBad 395 = .ok (.ifCond .eq 7, 3) := by decide +kernel
theorem dX12_isTermBad_398 : decode cX12_isTermBad 398 = .ok (.iconst 1, 1) := by decide +kernel
theorem dX12_isTermBad_399 : decode cX12_isTermBad 399 = .ok (.goto 4, 3) := by decide +kernel
theorem dX12_isTermBad_402 : decode cX12_isTermBad 402 = .ok (.iconst 0, 1) := by decide +kernel
theorem dX12_isTermBad_403 : decode cX12_isTermBad 403 = .ok (.iconst 1, 1) := by decide +kernel
theorem dX12_isTermBad_404 : decode cX12_isTermBad 404 = .ok (.invokevirtual 160, 3) := by decide +kernel
theorem dX12_isTermBad_407 : decode cX12_isTermBad 407 = .ok (.ireturn, 1) := by decide +kernel
theorem dX12_isTermStart_0 : decode cX12_isTermStart 0 = .ok (.aload_n 0, 1) := by decide +kernel
theorem dX12_isTermStart_1 : decode cX12_isTermStart 1 = .ok (.getfield 7, 3) := by decide +kernel
theorem dX12_isTermStart_4 : decode cX12_isTermStart 4 = .ok (.aload_n 0, 1) := by decide +kernel
theorem dX12_isTermStart_5 : decode cX12_isTermStart 5 = .ok (.getfield 144, 3) := by decide +kernel
theorem dX12_isTermStart_8 : decode cX12_isTermStart 8 = .ok (.iaload, 1) := by decide +kernel
theorem dX12_isTermStart_9 : decode cX12_isTermStart 9 = .ok (.invokestatic 77, 3) := by decide +kernel
theorem dX12_isTermStart_12 : decode cX12_isTermStart 12 = .ok (.ifCond .gt 31, 3) := by decide +kernel
theorem dX12_isTermStart_15 : decode cX12_isTermStart 15 = .ok (.aload_n 0, 1) := by decide +kernel
theorem dX12_isTermStart_16 : decode cX12_isTermStart 16 = .ok (.getfield 7, 3) := by decide +kernel
theorem dX12_isTermStart_19 : decode cX12_isTermStart 19 = .ok (.aload_n 0, 1) := by decide +kernel
theorem dX12_isTermStart_20 : decode cX12_isTermStart 20 = .ok (.getfield 144, 3) := by decide +kernel
theorem dX12_isTermStart_23 : decode cX12_isTermStart 23 = .ok (.iaload, 1) := by decide +kernel
theorem dX12_isTermStart_24 : decode cX12_isTermStart 24 = .ok (.bipush 43, 2) := by decide +kernel
theorem dX12_isTermStart_26 : decode cX12_isTermStart 26 = .ok (.if_icmp .eq 17, 3) := by decide +kernel
theorem dX12_isTermStart_29 : decode cX12_isTermStart 29 = .ok (.aload_n 0, 1) := by decide +kernel
theorem dX12_isTermStart_30 : decode cX12_isTermStart 30 = .ok (.getfield 7, 3) := by decide +kernel
theorem dX12_isTermStart_33 : decode cX12_isTermStart 33 = .ok (.aload_n 0, 1) := by decide +kernel
theorem dX12_isTermStart_34 : decode cX12_isTermStart 34 = .ok (.getfield 144, 3) := by decide +kernel
theorem dX12_isTermStart_37 : decode cX12_isTermStart 37 = .ok (.iaload, 1) := by decide +kernel
theorem dX12_isTermStart_38 : decode cX12_isTermStart 38 = .ok (.bipush 45, 2) := by decide +kernel
theorem dX12_isTermStart_40 : decode cX12_isTermStart 40 = .ok (.if_icmp .ne 7, 3) := by decide +kernel
theorem dX12_isTermStart_43 : decode cX12_isTermStart 43 = .ok (.iconst 1, 1) := by decide +kernel
theorem dX12_isTermStart_44 : decode cX12_isTermStart 44 = .ok (.goto 4, 3) := by decide +kernel
theorem dX12_isTermStart_47 : decode cX12_isTermStart 47 = .ok (.iconst 0, 1) := by decide +kernel
theorem dX12_isTermStart_48 : decode cX12_isTermStart 48 = .ok (.ireturn, 1) := by decide +kernel
theorem dX12_isQuery_0 : decode cX12_isQuery 0 = .ok (.aload_n 0, 1) := by decide +kernel
theorem dX12_isQuery_1 : decode cX12_isQuery 1 = .ok (.iconst 0, 1) := by decide +kernel
theorem dX12_isQuery_2 : decode cX12_isQuery 2 = .ok (.putfield 154, 3) := by decide +kernel
theorem dX12_isQuery_5 : decode cX12_isQuery 5 = .ok (.aload_n 0, 1) := by decide +kernel
theorem dX12_isQuery_6 : decode cX12_isQuery 6 = .ok (.iconst 0, 1) := by decide +kernel
theorem dX12_isQuery_7 : decode cX12_isQuery 7 = .ok (.putfield 144, 3) := by decide +kernel
theorem dX12_isQuery_10 : decode cX12_isQuery 10 = .ok (.aload_n 0, 1) := by decide +kernel
theorem dX12_isQuery_11 : decode cX12_isQuery 11 = .ok (.iconst 0, 1) := by decide +kernel
theorem dX12_isQuery_12 : decode cX12_isQuery 12 = .ok (.putfield 151, 3) := by decide +kernel
theorem dX12_isQuery_15 : decode cX12_isQuery 15 = .ok (.aload_n 0, 1) := by decide +kernel
theorem dX12_isQuery_16 : decode cX12_isQuery 16 = .ok (.iconst (-1), 1) := by decide +kernel
theorem dX12_isQuery_17 : decode cX12_isQuery 17 = .ok (.putfield 42, 3) := by decide +kernel
theorem dX12_isQuery_20 : decode cX12_isQuery 20 = .ok (.aload_n 0, 1) := by decide +kernel
theorem dX12_isQuery_21 : decode cX12_isQuery 21 = .ok (.invokevirtual 164, 3) := by decide +kernel
theorem dX12_isQuery_24 : decode cX12_isQuery 24 = .ok (.aload_n 0, 1) := by decide +kernel
theorem dX12_isQuery_25 : decode cX12_isQuery 25 = .ok (.getfield 144, 3) := by decide +kernel
theorem dX12_isQuery_28 : decode cX12_isQuery 28 = .ok (.aload_n 0, 1) := by decide +kernel
theorem dX12_isQuery_29 : decode cX12_isQuery 29 = .ok (.getfield 74, 3) := by decide +kernel
theorem dX12_isQuery_32 : decode cX12_isQuery 32 = .ok (.if_icmp .ge 53, 3) := by decide +kernel
theorem dX12_isQuery_35 : decode cX12_isQuery 35 = .ok (.aload_n 0, 1) := by decide +kernel
theorem dX12_isQuery_36 : decode cX12_isQuery 36 = .ok (.aload_n 0, 1) := by decide +kernel
theorem dX12_isQuery_37 : decode cX12_isQuery 37 = .ok (.invokevirtual 167, 3) := by decide +kernel
theorem dX12_isQuery_40 : decode cX12_isQuery 40 = .ok (.iconst 1, 1) := by decide +kernel
theorem dX12_isQuery_41 : decode cX12_isQuery 41 = .ok (.invokevirtual 160, 3) := by decide +kernel
theorem dX12_isQuery_44 : decode cX12_isQuery 44 = .ok (.ifCond .ne 32, 3) := by decide +kernel
theorem dX12_isQuery_47 : decode cX12_isQuery 47 = .ok (.aload_n 0, 1) := by decide +kernel
theorem dX12_isQuery_48 : decode cX12_isQuery 48 = .ok (.aload_n 0, 1) := by decide +kernel
theorem dX12_isQuery_49 : decode cX12_isQuery 49 = .ok (.getfield 154, 3) := by decide +kernel
theorem dX12_isQuery_52 : decode cX12_isQuery 52 = .ok (.bipush 16, 2) := by decide +kernel
theorem dX12_isQuery_54 : decode cX12_isQuery 54 = .ok (.if_icmp .ge 7, 3) := by decide +kernel
theorem dX12_isQuery_57 : decode cX12_isQuery 57 = .ok (.iconst 1, 1) := by decide +kernel
theorem dX12_isQuery_58 : decode cX12_isQuery 58 = .ok (.goto 4, 3) := by decide +kernel
theorem dX12_isQuery_61 : decode cX12_isQuery 61 = .ok (.iconst 0, 1) := by decide +kernel
theorem dX12_isQuery_62 : decode cX12_isQuery 62 = .ok (.iconst 3, 1) := by decide +kernel
theorem dX12_isQuery_63 : decode cX12_isQuery 63 = .ok (.invokevirtual 160, 3) := by decide +kernel
theorem dX12_isQuery_66 : decode cX12_isQuery 66 = .ok (.ifCond .ne 10, 3) := by decide +kernel
theorem dX12_isQuery_69 : decode cX12_isQuery 69 = .ok (.aload_n 0, 1) := by decide +kernel
theorem dX12_isQuery_70 : decode cX12_isQuery 70 = .ok (.invokevirtual 170, 3) := by decide +kernel
theorem dX12_isQuery_73 : decode cX12_isQuery 73 = .ok (.ifCond .eq 5, 3) := by decide +kernel
theorem dX12_isQuery_76 : decode cX12_isQuery 76 = .ok (.iconst 0, 1) := by decide +kernel
theorem dX12_isQuery_77 : decode cX12_isQuery 77 = .ok (.ireturn, 1) := by decide +kernel
theorem dX12_isQuery_78 : decode cX12_isQuery 78 = .ok (.aload_n 0, 1) := by decide +kernel
theorem dX12_isQuery_79 : decode cX12_isQuery 79 = .ok (.invokevirtual 164, 3) := by decide +kernel
theorem dX12_isQuery_82 : decode cX12_isQuery 82 = .ok (.goto (-58), 3) := by decide +kernel
theorem dX12_isQuery_85 : decode cX12_isQuery 85 = .ok (.iconst 1, 1) := by decide +kernel
theorem dX12_isQuery_86 : decode cX12_isQuery 86 = .ok (.ireturn, 1) := by decide +kernel
theorem dX12_stands_0 : decode cX12_stands 0 = .ok (.aload_n 0, 1) := by decide +kernel
theorem dX12_stands_1 : decode cX12_stands 1 = .ok (.getfield 32, 3) := by decide +kernel
theorem dX12_stands_4 : decode cX12_stands 4 = .ok (.iload_n 1, 1) := by decide +kernel
theorem dX12_stands_5 : decode cX12_stands 5 = .ok (.baload, 1) := by decide +kernel
theorem dX12_stands_6 : decode cX12_stands 6 = .ok (.ifCond .eq 22, 3) := by decide +kernel
theorem dX12_stands_9 : decode cX12_stands 9 = .ok (.lload_n 2, 1) := by decide +kernel
theorem dX12_stands_10 : decode cX12_stands 10 = .ok (.aload_n 0, 1) := by decide +kernel
theorem dX12_stands_11 : decode cX12_stands 11 = .ok (.getfield 26, 3) := by decide +kernel
theorem dX12_stands_14 : decode cX12_stands 14 = .ok (.iload_n 1, 1) := by decide +kernel
theorem dX12_stands_15 : decode cX12_stands 15 = .ok (.laload, 1) := by decide +kernel
theorem dX12_stands_16 : decode cX12_stands 16 = .ok (.aload_n 0, 1) := by decide +kernel
theorem dX12_stands_17 : decode cX12_stands 17 = .ok (.getfield 29, 3) := by decide +kernel
theorem dX12_stands_20 : decode cX12_stands 20 = .ok (.iload_n 1, 1) := by decide +kernel
theorem dX12_stands_21 : decode cX12_stands 21 = .ok (.iaload, 1) := by decide +kernel
theorem dX12_stands_22 : decode cX12_stands 22 = .ok (.invokestatic 173, 3) := by decide +kernel
theorem dX12_stands_25 : decode cX12_stands 25 = .ok (.goto 19, 3) := by decide +kernel
theorem dX12_stands_28 : decode cX12_stands 28 = .ok (.lload_n 2, 1) := by decide +kernel
theorem dX12_stands_29 : decode cX12_stands 29 = .ok (.aload_n 0, 1) := by decide +kernel
theorem dX12_stands_30 : decode cX12_stands 30 = .ok (.getfield 26, 3) := by decide +kernel
theorem dX12_stands_33 : decode cX12_stands 33 = .ok (.iload_n 1, 1) := by decide +kernel
theorem dX12_stands_34 : decode cX12_stands 34 = .ok (.laload, 1) := by decide +kernel
theorem dX12_stands_35 : decode cX12_stands 35 = .ok (.lcmp, 1) := by decide +kernel
theorem dX12_stands_36 : decode cX12_stands 36 = .ok (.ifCond .ne 7, 3) := by decide +kernel
theorem dX12_stands_39 : decode cX12_stands 39 = .ok (.iconst 1, 1) := by decide +kernel
theorem dX12_stands_40 : decode cX12_stands 40 = .ok (.goto 4, 3) := by decide +kernel
theorem dX12_stands_43 : decode cX12_stands 43 = .ok (.iconst 0, 1) := by decide +kernel
theorem dX12_stands_44 : decode cX12_stands 44 = .ok (.ireturn, 1) := by decide +kernel
theorem dX12_scoreOf_0 : decode cX12_scoreOf 0 = .ok (.iconst 0, 1) := by decide +kernel
theorem dX12_scoreOf_1 : decode cX12_scoreOf 1 = .ok (.istore_n 2, 1) := by decide +kernel
theorem dX12_scoreOf_2 : decode cX12_scoreOf 2 = .ok (.iconst 0, 1) := by decide +kernel
theorem dX12_scoreOf_3 : decode cX12_scoreOf 3 = .ok (.istore_n 3, 1) := by decide +kernel
theorem dX12_scoreOf_4 : decode cX12_scoreOf 4 = .ok (.iload_n 3, 1) := by decide +kernel
theorem dX12_scoreOf_5 : decode cX12_scoreOf 5 = .ok (.aload_n 0, 1) := by decide +kernel
theorem dX12_scoreOf_6 : decode cX12_scoreOf 6 = .ok (.getfield 154, 3) := by decide +kernel
theorem dX12_scoreOf_9 : decode cX12_scoreOf 9 = .ok (.if_icmp .ge 145, 3) := by decide +kernel
theorem dX12_scoreOf_12 : decode cX12_scoreOf 12 = .ok (.iconst 0, 1) := by decide +kernel
theorem dX12_scoreOf_13 : decode cX12_scoreOf 13 = .ok (.istore 4, 2) := by decide +kernel
theorem dX12_scoreOf_15 : decode cX12_scoreOf 15 = .ok (.iconst 0, 1) := by decide +kernel
theorem dX12_scoreOf_16 : decode cX12_scoreOf 16 = .ok (.istore 5, 2) := by decide +kernel
theorem dX12_scoreOf_18 : decode cX12_scoreOf 18 = .ok (.iload 5, 2) := by decide +kernel
theorem dX12_scoreOf_20 : decode cX12_scoreOf 20 = .ok (.aload_n 0, 1) := by decide +kernel
theorem dX12_scoreOf_21 : decode cX12_scoreOf 21 = .ok (.getfield 16, 3) := by decide +kernel
theorem dX12_scoreOf_24 : decode cX12_scoreOf 24 = .ok (.iload_n 1, 1) := by decide +kernel
theorem dX12_scoreOf_25 : decode cX12_scoreOf 25 = .ok (.iaload, 1) := by decide +kernel
theorem dX12_scoreOf_26 : decode cX12_scoreOf 26 = .ok (.if_icmp .ge 90, 3) := by decide +kernel
theorem dX12_scoreOf_29 : decode cX12_scoreOf 29 = .ok (.aload_n 0, 1) := by decide +kernel
theorem dX12_scoreOf_30 : decode cX12_scoreOf 30 = .ok (.getfield 19, 3) := by decide +kernel
theorem dX12_scoreOf_33 : decode cX12_scoreOf 33 = .ok (.sipush 200, 3) := by decide +kernel
theorem dX12_scoreOf_36 : decode cX12_scoreOf 36 = .ok (.iload_n 1, 1) := by decide +kernel
theorem dX12_scoreOf_37 : decode cX12_scoreOf 37 = .ok (.imul, 1) := by decide +kernel
theorem dX12_scoreOf_38 : decode cX12_scoreOf 38 = .ok (.iload 5, 2) := by decide +kernel
theorem dX12_scoreOf_40 : decode cX12_scoreOf 40 = .ok (.iadd, 1) := by decide +kernel
theorem dX12_scoreOf_41 : decode cX12_scoreOf 41 = .ok (.laload, 1) := by decide +kernel
theorem dX12_scoreOf_42 : decode cX12_scoreOf 42 = .ok (.lstore 6, 2) := by decide +kernel
theorem dX12_scoreOf_44 : decode cX12_scoreOf 44 = .ok (.aload_n 0, 1) := by decide +kernel
theorem dX12_scoreOf_45 : decode cX12_scoreOf 45 = .ok (.getfield 55, 3) := by decide +kernel
theorem dX12_scoreOf_48 : decode cX12_scoreOf 48 = .ok (.sipush 200, 3) := by decide +kernel
theorem dX12_scoreOf_51 : decode cX12_scoreOf 51 = .ok (.iload_n 1, 1) := by decide +kernel
theorem dX12_scoreOf_52 : decode cX12_scoreOf 52 = .ok (.imul, 1) := by decide +kernel
theorem dX12_scoreOf_53 : decode cX12_scoreOf 53 = .ok (.iload 5, 2) := by decide +kernel
theorem dX12_scoreOf_55 : decode cX12_scoreOf 55 = .ok (.iadd, 1) := by decide +kernel
theorem dX12_scoreOf_56 : decode cX12_scoreOf 56 = .ok (.baload, 1) := by decide +kernel
theorem dX12_scoreOf_57 : decode cX12_scoreOf 57 = .ok (.ifCond .eq 53, 3) := by decide +kernel
theorem dX12_scoreOf_60 : decode cX12_scoreOf 60 = .ok (.aload_n 0, 1) := by decide +kernel
theorem dX12_scoreOf_61 : decode cX12_scoreOf 61 = .ok (.iload_n 3, 1) := by decide +kernel
theorem dX12_scoreOf_62 : decode cX12_scoreOf 62 = .ok (.lload 6, 2) := by decide +kernel
theorem dX12_scoreOf_64 : decode cX12_scoreOf 64 = .ok (.invokevirtual 177, 3) := by decide +kernel
theorem dX12_scoreOf_67 : decode cX12_scoreOf 67 = .ok (.ifCond .eq 43, 3) := by decide +kernel
theorem dX12_scoreOf_70 : decode cX12_scoreOf 70 = .ok (.iconst 1, 1) := by decide +kernel
theorem dX12_scoreOf_71 : decode cX12_scoreOf 71 = .ok (.istore 4, 2) := by decide +kernel
theorem dX12_scoreOf_73 : decode cX12_scoreOf 73 = .ok (.aload_n 0, 1) := by decide +kernel
theorem dX12_scoreOf_74 : decode cX12_scoreOf 74 = .ok (.getfield 36, 3) := by decide +kernel
theorem dX12_scoreOf_77 : decode cX12_scoreOf 77 = .ok (.iload_n 3, 1) := by decide +kernel
theorem dX12_scoreOf_78 : decode cX12_scoreOf 78 = .ok (.iaload, 1) := by decide +kernel
theorem dX12_scoreOf_79 : decode cX12_scoreOf 79 = .ok (.iconst 2, 1) := by decide +kernel
theorem dX12_scoreOf_80 : decode cX12_scoreOf 80 = .ok (.if_icmp .ne 7, 3) := by decide +kernel
theorem dX12_scoreOf_83 : decode cX12_scoreOf 83 = .ok (.iload_n 2, 1) := by decide +kernel
theorem dX12_scoreOf_84 : decode cX12_scoreOf 84 = .ok (.goto 25, 3) := by decide +kernel
theorem dX12_scoreOf_87 : decode cX12_scoreOf 87 = .ok (.iload_n 2, 1) := by decide +kernel
theorem dX12_scoreOf_88 : decode cX12_scoreOf 88 = .ok (.aload_n 0, 1) := by decide +kernel
theorem dX12_scoreOf_89 : decode cX12_scoreOf 89 = .ok (.getfield 39, 3) := by decide +kernel
theorem dX12_scoreOf_92 : decode cX12_scoreOf 92 = .ok (.iload_n 3, 1) := by decide +kernel
theorem dX12_scoreOf_93 : decode cX12_scoreOf 93 = .ok (.iaload, 1) := by decide +kernel
theorem dX12_scoreOf_94 : decode cX12_scoreOf 94 = .ok (.aload_n 0, 1) := by decide +kernel
theorem dX12_scoreOf_95 : decode cX12_scoreOf 95 = .ok (.getfield 58, 3) := by decide +kernel
theorem dX12_scoreOf_98 : decode cX12_scoreOf 98 = .ok (.sipush 200, 3) := by decide +kernel
theorem dX12_scoreOf_101 : decode cX12_scoreOf 101 = .ok (.iload_n 1, 1) := by decide +kernel
theorem dX12_scoreOf_102 : decode cX12_scoreOf 102 = .ok (.imul, 1) := by decide +kernel
theorem dX12_scoreOf_103 : decode cX12_scoreOf 103 = .ok (.iload 5, 2) := by decide +kernel
theorem dX12_scoreOf_105 : decode cX12_scoreOf 105 = .ok (.iadd, 1) := by decide +kernel
theorem dX12_scoreOf_106 : decode cX12_scoreOf 106 = .ok (.iaload, 1) := by decide +kernel
theorem dX12_scoreOf_107 : decode cX12_scoreOf 107 = .ok (.imul, 1) := by decide +kernel
theorem dX12_scoreOf_108 : decode cX12_scoreOf 108 = .ok (.iadd, 1) := by decide +kernel
theorem dX12_scoreOf_109 : decode cX12_scoreOf 109 = .ok (.istore_n 2, 1) := by decide +kernel
theorem dX12_scoreOf_110 : decode cX12_scoreOf 110 = .ok (.iinc 5 1, 3) := by decide +kernel
theorem dX12_scoreOf_113 : decode cX12_scoreOf 113 = .ok (.goto (-95), 3) := by decide +kernel
theorem dX12_scoreOf_116 : decode cX12_scoreOf 116 = .ok (.aload_n 0, 1) := by decide +kernel
theorem dX12_scoreOf_117 : decode cX12_scoreOf 117 = .ok (.getfield 36, 3) := by decide +kernel
theorem dX12_scoreOf_120 : decode cX12_scoreOf 120 = .ok (.iload_n 3, 1) := by decide +kernel
theorem dX12_scoreOf_121 : decode cX12_scoreOf 121 = .ok (.iaload, 1) := by decide +kernel
theorem dX12_scoreOf_122 : decode cX12_scoreOf 122 = .ok (.iconst 1, 1) := by decide +kernel
theorem dX12_scoreOf_123 : decode cX12_scoreOf 123 = .ok (.if_icmp .ne 8, 3) := by decide +kernel
theorem dX12_scoreOf_126 : decode cX12_scoreOf 126 = .ok (.iload 4, 2) := by decide +kernel
theorem dX12_scoreOf_128 : decode cX12_scoreOf 128 = .ok (.ifCond .eq 18, 3) := by decide +kernel
theorem dX12_scoreOf_131 : decode cX12_scoreOf 131 = .ok (.aload_n 0, 1) := by decide +kernel
theorem dX12_scoreOf_132 : decode cX12_scoreOf 132 = .ok (.getfield 36, 3) := by decide +kernel
theorem dX12_scoreOf_135 : decode cX12_scoreOf 135 = .ok (.iload_n 3, 1) := by decide +kernel
theorem dX12_scoreOf_136 : decode cX12_scoreOf 136 = .ok (.iaload, 1) := by decide +kernel
theorem dX12_scoreOf_137 : decode cX12_scoreOf 137 = .ok (.iconst 2, 1) := by decide +kernel
theorem dX12_scoreOf_138 : decode cX12_scoreOf 138 = .ok (.if_icmp .ne 10, 3) := by decide +kernel
theorem dX12_scoreOf_141 : decode cX12_scoreOf 141 = .ok (.iload 4, 2) := by decide +kernel
theorem dX12_scoreOf_143 : decode cX12_scoreOf 143 = .ok (.ifCond .eq 5, 3) := by decide +kernel
theorem dX12_scoreOf_146 : decode cX12_scoreOf 146 = .ok (.iconst (-1), 1) := by decide +kernel
theorem dX12_scoreOf_147 : decode cX12_scoreOf 147 = .ok (.ireturn, 1) := by decide +kernel
theorem dX12_scoreOf_148 : decode cX12_scoreOf 148 = .ok (.iinc 3 1, 3) := by decide +kernel
theorem dX12_scoreOf_151 : decode cX12_scoreOf 151 = .ok (.goto (-147), 3) := by decide +kernel
theorem dX12_scoreOf_154 : decode cX12_scoreOf 154 = .ok (.iload_n 2, 1) := by decide +kernel
theorem dX12_scoreOf_155 : decode cX12_scoreOf 155 = .ok (.ifCond .le 7, 3) := by decide +kernel
theorem dX12_scoreOf_158 : decode cX12_scoreOf 158 = .ok (.iload_n 2, 1) := by decide +kernel
theorem dX12_scoreOf_159 : decode cX12_scoreOf 159 = .ok (.goto 4, 3) := by decide +kernel
theorem dX12_scoreOf_162 : decode cX12_scoreOf 162 = .ok (.iconst (-1), 1) := by decide +kernel
theorem dX12_scoreOf_163 : decode cX12_scoreOf 163 = .ok (.ireturn, 1) := by decide +kernel
theorem dX12_pick_0 : decode cX12_pick 0 = .ok (.aload_n 0, 1) := by decide +kernel
theorem dX12_pick_1 : decode cX12_pick 1 = .ok (.invokevirtual 112, 3) := by decide +kernel
theorem dX12_pick_4 : decode cX12_pick 4 = .ok (.iconst 0, 1) := by decide +kernel
theorem dX12_pick_5 : decode cX12_pick 5 = .ok (.istore_n 3, 1) := by decide +kernel
theorem dX12_pick_6 : decode cX12_pick 6 = .ok (.iload_n 3, 1) := by decide +kernel
theorem dX12_pick_7 : decode cX12_pick 7 = .ok (.aload_n 0, 1) := by decide +kernel
theorem dX12_pick_8 : decode cX12_pick 8 = .ok (.getfield 85, 3) := by decide +kernel
theorem dX12_pick_11 : decode cX12_pick 11 = .ok (.if_icmp .ge 34, 3) := by decide +kernel
theorem dX12_pick_14 : decode cX12_pick 14 = .ok (.aload_n 0, 1) := by decide +kernel
theorem dX12_pick_15 : decode cX12_pick 15 = .ok (.getfield 46, 3) := by decide +kernel
theorem dX12_pick_18 : decode cX12_pick 18 = .ok (.iload_n 3, 1) := by decide +kernel
theorem dX12_pick_19 : decode cX12_pick 19 = .ok (.aload_n 0, 1) := by decide +kernel
theorem dX12_pick_20 : decode cX12_pick 20 = .ok (.getfield 13, 3) := by decide +kernel
theorem dX12_pick_23 : decode cX12_pick 23 = .ok (.iload_n 3, 1) := by decide +kernel
theorem dX12_pick_24 : decode cX12_pick 24 = .ok (.iaload, 1) := by decide +kernel
theorem dX12_pick_25 : decode cX12_pick 25 = .ok (.iload_n 2, 1) := by decide +kernel
theorem dX12_pick_26 : decode cX12_pick 26 = .ok (.if_icmp .ne 7, 3) := by decide +kernel
theorem dX12_pick_29 : decode cX12_pick 29 = .ok (.iconst (-1), 1) := by decide +kernel
theorem dX12_pick_30 : decode cX12_pick 30 = .ok (.goto 8, 3) := by decide +kernel
theorem dX12_pick_33 : decode cX12_pick 33 = .ok (.aload_n 0, 1) := by decide +kernel
theorem dX12_pick_34 : decode cX12_pick 34 = .ok (.iload_n 3, 1) := by decide +kernel
theorem dX12_pick_35 : decode cX12_pick 35 = .ok (.invokevirtual 181, 3) := by decide +kernel
theorem dX12_pick_38 : decode cX12_pick 38 = .ok (.iastore, 1) := by decide +kernel
theorem dX12_pick_39 : decode cX12_pick 39 = .ok (.iinc 3 1, 3) := by decide +kernel
theorem dX12_pick_42 : decode cX12_pick 42 = .ok (.goto (-36), 3) := by decide +kernel
theorem dX12_pick_45 : decode cX12_pick 45 = .ok (.aload_n 0, 1) := by decide +kernel
theorem dX12_pick_46 : decode cX12_pick 46 = .ok (.iconst 0, 1) := by decide +kernel
theorem dX12_pick_47 : decode cX12_pick 47 = .ok (.putfield 184, 3) := by decide +kernel
theorem dX12_pick_50 : decode cX12_pick 50 = .ok (.iconst 0, 1) := by decide +kernel
theorem dX12_pick_51 : decode cX12_pick 51 = .ok (.istore_n 3, 1) := by decide +kernel
theorem dX12_pick_52 : decode cX12_pick 52 = .ok (.iload_n 3, 1) := by decide +kernel
theorem dX12_pick_53 : decode cX12_pick 53 = .ok (.iload_n 1, 1) := by decide +kernel
theorem dX12_pick_54 : decode cX12_pick 54 = .ok (.if_icmp .ge 177, 3) := by decide +kernel
theorem dX12_pick_57 : decode cX12_pick 57 = .ok (.iconst (-1), 1) := by decide +kernel
theorem dX12_pick_58 : decode cX12_pick 58 = .ok (.istore 4, 2) := by decide +kernel
theorem dX12_pick_60 : decode cX12_pick 60 = .ok (.iconst 0, 1) := by decide +kernel
theorem dX12_pick_61 : decode cX12_pick 61 = .ok (.istore 5, 2) := by decide +kernel
theorem dX12_pick_63 : decode cX12_pick 63 = .ok (.iload 5, 2) := by decide +kernel
theorem dX12_pick_65 : decode cX12_pick 65 = .ok (.aload_n 0, 1) := by decide +kernel
theorem dX12_pick_66 : decode cX12_pick 66 = .ok (.getfield 85, 3) := by decide +kernel
theorem dX12_pick_69 : decode cX12_pick 69 = .ok (.if_icmp .ge 96, 3) := by decide +kernel
theorem dX12_pick_72 : decode cX12_pick 72 = .ok (.iload 4, 2) := by decide +kernel
theorem dX12_pick_74 : decode cX12_pick 74 = .ok (.ifCond .lt 54, 3) := by decide +kernel
theorem dX12_pick_77 : decode cX12_pick 77 = .ok (.aload_n 0, 1) := by decide +kernel
theorem dX12_pick_78 : decode cX12_pick 78 = .ok (.getfield 46, 3) := by decide +kernel
theorem dX12_pick_81 : decode cX12_pick 81 = .ok (.iload 5, 2) := by decide +kernel
theorem dX12_pick_83 : decode cX12_pick 83 = .ok (.iaload, 1) := by decide +kernel
theorem dX12_pick_84 : decode cX12_pick 84 = .ok (.aload_n 0, 1) := by decide +kernel
theorem dX12_pick_85 : decode cX12_pick 85 = .ok (.getfield 46, 3) := by decide +kernel
theorem dX12_pick_88 : decode cX12_pick 88 = .ok (.iload 4, 2) := by decide +kernel
theorem dX12_pick_90 : decode cX12_pick 90 = .ok (.iaload, 1) := by decide +kernel
theorem dX12_pick_91 : decode cX12_pick 91 = .ok (.if_icmp .gt 37, 3) := by decide +kernel
theorem dX12_pick_94 : decode cX12_pick 94 = .ok (.aload_n 0, 1) := by decide +kernel
theorem dX12_pick_95 : decode cX12_pick 95 = .ok (.getfield 46, 3) := by decide +kernel
theorem dX12_pick_98 : decode cX12_pick 98 = .ok (.iload 5, 2) := by decide +kernel
theorem dX12_pick_100 : decode cX12_pick 100 = .ok (.iaload, 1) := by decide +kernel
theorem dX12_pick_101 : decode cX12_pick 101 = .ok (.aload_n 0, 1) := by decide +kernel
theorem dX12_pick_102 : decode cX12_pick 102 = .ok (.getfield 46, 3) := by decide +kernel
theorem dX12_pick_105 : decode cX12_pick 105 = .ok (.iload 4, 2) := by decide +kernel
theorem dX12_pick_107 : decode cX12_pick 107 = .ok (.iaload, 1) := by decide +kernel
theorem dX12_pick_108 : decode cX12_pick 108 = .ok (.if_icmp .ne 24, 3) := by decide +kernel
theorem dX12_pick_111 : decode cX12_pick 111 = .ok (.aload_n 0, 1) := by decide +kernel
theorem dX12_pick_112 : decode cX12_pick 112 = .ok (.getfield 13, 3) := by decide +kernel
theorem dX12_pick_115 : decode cX12_pick 115 = .ok (.iload 5, 2) := by decide +kernel
theorem dX12_pick_117 : decode cX12_pick 117 = .ok (.iaload, 1) := by decide +kernel
theorem dX12_pick_118 : decode cX12_pick 118 = .ok (.aload_n 0, 1) := by decide +kernel
theorem dX12_pick_119 : decode cX12_pick 119 = .ok (.getfield 13, 3) := by decide +kernel
theorem dX12_pick_122 : decode cX12_pick 122 = .ok (.iload 4, 2) := by decide +kernel
theorem dX12_pick_124 : decode cX12_pick 124 = .ok (.iaload, 1) := by decide +kernel
theorem dX12_pick_125 : decode cX12_pick 125 = .ok (.if_icmp .ge 7, 3) := by decide +kernel
theorem dX12_pick_128 : decode cX12_pick 128 = .ok (.iconst 1, 1) := by decide +kernel
theorem dX12_pick_129 : decode cX12_pick 129 = .ok (.goto 4, 3) := by decide +kernel
theorem dX12_pick_132 : decode cX12_pick 132 = .ok (.iconst 0, 1) := by decide +kernel
theorem dX12_pick_133 : decode cX12_pick 133 = .ok (.istore 6, 2) := by decide +kernel
theorem dX12_pick_135 : decode cX12_pick 135 = .ok (.aload_n 0, 1) := by decide +kernel
theorem dX12_pick_136 : decode cX12_pick 136 = .ok (.getfield 46, 3) := by decide +kernel
theorem dX12_pick_139 : decode cX12_pick 139 = .ok (.iload 5, 2) := by decide +kernel
theorem dX12_pick_141 : decode cX12_pick 141 = .ok (.iaload, 1) := by decide +kernel
theorem dX12_pick_142 : decode cX12_pick 142 = .ok (.ifCond .le 13, 3) := by decide +kernel
theorem dX12_pick_145 : decode cX12_pick 145 = .ok (.iload 6, 2) := by decide +kernel
theorem dX12_pick_147 : decode cX12_pick 147 = .ok (.ifCond .eq 8, 3) := by decide +kernel
theorem dX12_pick_150 : decode cX12_pick 150 = .ok (.iload 5, 2) := by decide +kernel
theorem dX12_pick_152 : decode cX12_pick 152 = .ok (.goto 5, 3) := by decide +kernel
theorem dX12_pick_155 : decode cX12_pick 155 = .ok (.iload 4, 2) := by decide +kernel
theorem dX12_pick_157 : decode cX12_pick 157 = .ok (.istore 4, 2) := by decide +kernel
theorem dX12_pick_159 : decode cX12_pick 159 = .ok (.iinc 5 1, 3) := by decide +kernel
theorem dX12_pick_162 : decode cX12_pick 162 = .ok (.goto (-99), 3) := by decide +kernel
theorem dX12_pick_165 : decode cX12_pick 165 = .ok (.iload 4, 2) := by decide +kernel
theorem dX12_pick_167 : decode cX12_pick 167 = .ok (.ifCond .ge 8, 3) := by decide +kernel
theorem dX12_pick_170 : decode cX12_pick 170 = .ok (.aload_n 0, 1) := by decide +kernel
theorem dX12_pick_171 : decode cX12_pick 171 = .ok (.getfield 184, 3) := by decide +kernel
theorem dX12_pick_174 : decode cX12_pick 174 = .ok (.ireturn, 1) := by decide +kernel
theorem dX12_pick_175 : decode cX12_pick 175 = .ok (.aload_n 0, 1) := by decide +kernel
theorem dX12_pick_176 : decode cX12_pick 176 = .ok (.getfield 49, 3) := by decide +kernel
theorem dX12_pick_179 : decode cX12_pick 179 = .ok (.aload_n 0, 1) := by decide +kernel
theorem dX12_pick_180 : decode cX12_pick 180 = .ok (.getfield 184, 3) := by decide +kernel
theorem dX12_pick_183 : decode cX12_pick 183 = .ok (.aload_n 0, 1) := by decide +kernel
theorem dX12_pick_184 : decode cX12_pick 184 = .ok (.getfield 13, 3) := by decide +kernel
theorem dX12_pick_187 : decode cX12_pick 187 = .ok (.iload 4, 2) := by decide +kernel
theorem dX12_pick_189 : decode cX12_pick 189 = .ok (.iaload, 1) := by decide +kernel
theorem dX12_pick_190 : decode cX12_pick 190 = .ok (.iastore, 1) := by decide +kernel
theorem dX12_pick_191 : decode cX12_pick 191 = .ok (.aload_n 0, 1) := by decide +kernel
theorem dX12_pick_192 : decode cX12_pick 192 = .ok (.getfield 52, 3) := by decide +kernel
theorem dX12_pick_195 : decode cX12_pick 195 = .ok (.aload_n 0, 1) := by decide +kernel
theorem dX12_pick_196 : decode cX12_pick 196 = .ok (.getfield 184, 3) := by decide +kernel
theorem dX12_pick_199 : decode cX12_pick 199 = .ok (.aload_n 0, 1) := by decide +kernel
theorem dX12_pick_200 : decode cX12_pick 200 = .ok (.getfield 46, 3) := by decide +kernel
theorem dX12_pick_203 : decode cX12_pick 203 = .ok (.iload 4, 2) := by decide +kernel
theorem dX12_pick_205 : decode cX12_pick 205 = .ok (.iaload, 1) := by decide +kernel
theorem dX12_pick_206 : decode cX12_pick 206 = .ok (.iastore, 1) := by decide +kernel
theorem dX12_pick_207 : decode cX12_pick 207 = .ok (.aload_n 0, 1) := by decide +kernel
theorem dX12_pick_208 : decode cX12_pick 208 = .ok (.getfield 46, 3) := by decide +kernel
theorem dX12_pick_211 : decode cX12_pick 211 = .ok (.iload 4, 2) := by decide +kernel
theorem dX12_pick_213 : decode cX12_pick 213 = .ok (.iconst (-1), 1) := by decide +kernel
theorem dX12_pick_214 : decode cX12_pick 214 = .ok (.iastore, 1) := by decide +kernel
theorem dX12_pick_215 : decode cX12_pick 215 = .ok (.aload_n 0, 1) := by decide +kernel
theorem dX12_pick_216 : decode cX12_pick 216 = .ok (.dup, 1) := by decide +kernel
theorem dX12_pick_217 : decode cX12_pick 217 = .ok (.getfield 184, 3) := by decide +kernel
theorem dX12_pick_220 : decode cX12_pick 220 = .ok (.iconst 1, 1) := by decide +kernel
theorem dX12_pick_221 : decode cX12_pick 221 = .ok (.iadd, 1) := by decide +kernel
theorem dX12_pick_222 : decode cX12_pick 222 = .ok (.putfield 184, 3) := by decide +kernel
theorem dX12_pick_225 : decode cX12_pick 225 = .ok (.iinc 3 1, 3) := by decide +kernel
theorem dX12_pick_228 : decode cX12_pick 228 = .ok (.goto (-176), 3) := by decide +kernel
theorem dX12_pick_231 : decode cX12_pick 231 = .ok (.aload_n 0, 1) := by decide +kernel
theorem dX12_pick_232 : decode cX12_pick 232 = .ok (.getfield 184, 3) := by decide +kernel
theorem dX12_pick_235 : decode cX12_pick 235 = .ok (.ireturn, 1) := by decide +kernel
theorem dX12_find_0 : decode cX12_find 0 = .ok (.aload_n 0, 1) := by decide +kernel
theorem dX12_find_1 : decode cX12_find 1 = .ok (.iload_n 1, 1) := by decide +kernel
theorem dX12_find_2 : decode cX12_find 2 = .ok (.iconst 1, 1) := by decide +kernel
theorem dX12_find_3 : decode cX12_find 3 = .ok (.if_icmp .lt 9, 3) := by decide +kernel
theorem dX12_find_6 : decode cX12_find 6 = .ok (.iload_n 1, 1) := by decide +kernel
theorem dX12_find_7 : decode cX12_find 7 = .ok (.bipush 50, 2) := by decide +kernel
theorem dX12_find_9 : decode cX12_find 9 = .ok (.if_icmp .le 7, 3) := by decide +kernel
theorem dX12_find_12 : decode cX12_find 12 = .ok (.iconst 1, 1) := by decide +kernel
theorem dX12_find_13 : decode cX12_find 13 = .ok (.goto 4, 3) := by decide +kernel
theorem dX12_find_16 : decode cX12_find 16 = .ok (.iconst 0, 1) := by decide +kernel
theorem dX12_find_17 : decode cX12_find 17 = .ok (.putfield 68, 3) := by decide +kernel
theorem dX12_find_20 : decode cX12_find 20 = .ok (.aload_n 0, 1) := by decide +kernel
theorem dX12_find_21 : decode cX12_find 21 = .ok (.getfield 68, 3) := by decide +kernel
theorem dX12_find_24 : decode cX12_find 24 = .ok (.ifCond .le 5, 3) := by decide +kernel
theorem dX12_find_27 : decode cX12_find 27 = .ok (.iconst 0, 1) := by decide +kernel
theorem dX12_find_28 : decode cX12_find 28 = .ok (.ireturn, 1) := by decide +kernel
theorem dX12_find_29 : decode cX12_find 29 = .ok (.aload_n 0, 1) := by decide +kernel
theorem dX12_find_30 : decode cX12_find 30 = .ok (.iconst 0, 1) := by decide +kernel
theorem dX12_find_31 : decode cX12_find 31 = .ok (.putfield 184, 3) := by decide +kernel
theorem dX12_find_34 : decode cX12_find 34 = .ok (.aload_n 0, 1) := by decide +kernel
theorem dX12_find_35 : decode cX12_find 35 = .ok (.invokevirtual 187, 3) := by decide +kernel
theorem dX12_find_38 : decode cX12_find 38 = .ok (.ifCond .eq 12, 3) := by decide +kernel
theorem dX12_find_41 : decode cX12_find 41 = .ok (.aload_n 0, 1) := by decide +kernel
theorem dX12_find_42 : decode cX12_find 42 = .ok (.iload_n 1, 1) := by decide +kernel
theorem dX12_find_43 : decode cX12_find 43 = .ok (.iconst (-1), 1) := by decide +kernel
theorem dX12_find_44 : decode cX12_find 44 = .ok (.invokevirtual 190, 3) := by decide +kernel
theorem dX12_find_47 : decode cX12_find 47 = .ok (.goto 4, 3) := by decide +kernel
theorem dX12_find_50 : decode cX12_find 50 = .ok (.iconst (-1), 1) := by decide +kernel
theorem dX12_find_51 : decode cX12_find 51 = .ok (.ireturn, 1) := by decide +kernel
theorem dX12_fault_0 : decode cX12_fault 0 = .ok (.aload_n 0, 1) := by decide +kernel
theorem dX12_fault_1 : decode cX12_fault 1 = .ok (.iconst 0, 1) := by decide +kernel
theorem dX12_fault_2 : decode cX12_fault 2 = .ok (.putfield 68, 3) := by decide +kernel
theorem dX12_fault_5 : decode cX12_fault 5 = .ok (.aload_n 0, 1) := by decide +kernel
theorem dX12_fault_6 : decode cX12_fault 6 = .ok (.getfield 151, 3) := by decide +kernel
theorem dX12_fault_9 : decode cX12_fault 9 = .ok (.ireturn, 1) := by decide +kernel
theorem dX12_place_0 : decode cX12_place 0 = .ok (.aload_n 0, 1) := by decide +kernel
theorem dX12_place_1 : decode cX12_place 1 = .ok (.iconst 0, 1) := by decide +kernel
theorem dX12_place_2 : decode cX12_place 2 = .ok (.putfield 68, 3) := by decide +kernel
theorem dX12_place_5 : decode cX12_place 5 = .ok (.aload_n 0, 1) := by decide +kernel
theorem dX12_place_6 : decode cX12_place 6 = .ok (.getfield 42, 3) := by decide +kernel
theorem dX12_place_9 : decode cX12_place 9 = .ok (.ireturn, 1) := by decide +kernel
theorem dX12_similar_0 : decode cX12_similar 0 = .ok (.iload_n 1, 1) := by decide +kernel
theorem dX12_similar_1 : decode cX12_similar 1 = .ok (.invokestatic 119, 3) := by decide +kernel
theorem dX12_similar_4 : decode cX12_similar 4 = .ok (.ifCond .eq 11, 3) := by decide +kernel
theorem dX12_similar_7 : decode cX12_similar 7 = .ok (.aload_n 0, 1) := by decide +kernel
theorem dX12_similar_8 : decode cX12_similar 8 = .ok (.iload_n 1, 1) := by decide +kernel
theorem dX12_similar_9 : decode cX12_similar 9 = .ok (.invokevirtual 123, 3) := by decide +kernel
theorem dX12_similar_12 : decode cX12_similar 12 = .ok (.goto 4, 3) := by decide +kernel
theorem dX12_similar_15 : decode cX12_similar 15 = .ok (.iconst (-1), 1) := by decide +kernel
theorem dX12_similar_16 : decode cX12_similar 16 = .ok (.istore_n 3, 1) := by decide +kernel
theorem dX12_similar_17 : decode cX12_similar 17 = .ok (.aload_n 0, 1) := by decide +kernel
theorem dX12_similar_18 : decode cX12_similar 18 = .ok (.iload_n 2, 1) := by decide +kernel
theorem dX12_similar_19 : decode cX12_similar 19 = .ok (.iconst 1, 1) := by decide +kernel
theorem dX12_similar_20 : decode cX12_similar 20 = .ok (.if_icmp .lt 13, 3) := by decide +kernel
theorem dX12_similar_23 : decode cX12_similar 23 = .ok (.iload_n 2, 1) := by decide +kernel
theorem dX12_similar_24 : decode cX12_similar 24 = .ok (.bipush 50, 2) := by decide +kernel
theorem dX12_similar_26 : decode cX12_similar 26 = .ok (.if_icmp .gt 7, 3) := by decide +kernel
theorem dX12_similar_29 : decode cX12_similar 29 = .ok (.iload_n 3, 1) := by decide +kernel
theorem dX12_similar_30 : decode cX12_similar 30 = .ok (.ifCond .ge 7, 3) := by decide +kernel
theorem dX12_similar_33 : decode cX12_similar 33 = .ok (.iconst 1, 1) := by decide +kernel
theorem dX12_similar_34 : decode cX12_similar 34 = .ok (.goto 4, 3) := by decide +kernel
theorem dX12_similar_37 : decode cX12_similar 37 = .ok (.iconst 0, 1) := by decide +kernel
theorem dX12_similar_38 : decode cX12_similar 38 = .ok (.putfield 68, 3) := by decide +kernel
theorem dX12_similar_41 : decode cX12_similar 41 = .ok (.aload_n 0, 1) := by decide +kernel
theorem dX12_similar_42 : decode cX12_similar 42 = .ok (.getfield 68, 3) := by decide +kernel
theorem dX12_similar_45 : decode cX12_similar 45 = .ok (.ifCond .le 5, 3) := by decide +kernel
theorem dX12_similar_48 : decode cX12_similar 48 = .ok (.iconst 0, 1) := by decide +kernel
theorem dX12_similar_49 : decode cX12_similar 49 = .ok (.ireturn, 1) := by decide +kernel
theorem dX12_similar_50 : decode cX12_similar 50 = .ok (.aload_n 0, 1) := by decide +kernel
theorem dX12_similar_51 : decode cX12_similar 51 = .ok (.iconst 0, 1) := by decide +kernel
theorem dX12_similar_52 : decode cX12_similar 52 = .ok (.putfield 154, 3) := by decide +kernel
theorem dX12_similar_55 : decode cX12_similar 55 = .ok (.iconst 0, 1) := by decide +kernel
theorem dX12_similar_56 : decode cX12_similar 56 = .ok (.istore 4, 2) := by decide +kernel
theorem dX12_similar_58 : decode cX12_similar 58 = .ok (.iload 4, 2) := by decide +kernel
theorem dX12_similar_60 : decode cX12_similar 60 = .ok (.aload_n 0, 1) := by decide +kernel
theorem dX12_similar_61 : decode cX12_similar 61 = .ok (.getfield 16, 3) := by decide +kernel
theorem dX12_similar_64 : decode cX12_similar 64 = .ok (.iload_n 3, 1) := by decide +kernel
theorem dX12_similar_65 : decode cX12_similar 65 = .ok (.iaload, 1) := by decide +kernel
theorem dX12_similar_66 : decode cX12_similar 66 = .ok (.if_icmp .ge 107, 3) := by decide +kernel
theorem dX12_similar_69 : decode cX12_similar 69 = .ok (.aload_n 0, 1) := by decide +kernel
theorem dX12_similar_70 : decode cX12_similar 70 = .ok (.iload_n 3, 1) := by decide +kernel
theorem dX12_similar_71 : decode cX12_similar 71 = .ok (.iload 4, 2) := by decide +kernel
theorem dX12_similar_73 : decode cX12_similar 73 = .ok (.invokevirtual 98, 3) := by decide +kernel
theorem dX12_similar_76 : decode cX12_similar 76 = .ok (.ifCond .eq 91, 3) := by decide +kernel
theorem dX12_similar_79 : decode cX12_similar 79 = .ok (.aload_n 0, 1) := by decide +kernel
theorem dX12_similar_80 : decode cX12_similar 80 = .ok (.getfield 19, 3) := by decide +kernel
theorem dX12_similar_83 : decode cX12_similar 83 = .ok (.sipush 200, 3) := by decide +kernel
theorem dX12_similar_86 : decode cX12_similar 86 = .ok (.iload_n 3, 1) := by decide +kernel
theorem dX12_similar_87 : decode cX12_similar 87 = .ok (.imul, 1) := by decide +kernel
theorem dX12_similar_88 : decode cX12_similar 88 = .ok (.iload 4, 2) := by decide +kernel
theorem dX12_similar_90 : decode cX12_similar 90 = .ok (.iadd, 1) := by decide +kernel
theorem dX12_similar_91 : decode cX12_similar 91 = .ok (.laload, 1) := by decide +kernel
theorem dX12_similar_92 : decode cX12_similar 92 = .ok (.lstore 5, 2) := by decide +kernel
theorem dX12_similar_94 : decode cX12_similar 94 = .ok (.aload_n 0, 1) := by decide +kernel
theorem dX12_similar_95 : decode cX12_similar 95 = .ok (.iload_n 3, 1) := by decide +kernel
theorem dX12_similar_96 : decode cX12_similar 96 = .ok (.lload 5, 2) := by decide +kernel
theorem dX12_similar_98 : decode cX12_similar 98 = .ok (.invokevirtual 88, 3) := by decide +kernel
theorem dX12_similar_101 : decode cX12_similar 101 = .ok (.istore 7, 2) := by decide +kernel
theorem dX12_similar_103 : decode cX12_similar 103 = .ok (.aload_n 0, 1) := by decide +kernel
theorem dX12_similar_104 : decode cX12_similar 104 = .ok (.getfield 26, 3) := by decide +kernel
theorem dX12_similar_107 : decode cX12_similar 107 = .ok (.aload_n 0, 1) := by decide +kernel
theorem dX12_similar_108 : decode cX12_similar 108 = .ok (.getfield 154, 3) := by decide +kernel
theorem dX12_similar_111 : decode cX12_similar 111 = .ok (.lload 5, 2) := by decide +kernel
theorem dX12_similar_113 : decode cX12_similar 113 = .ok (.lastore, 1) := by decide +kernel
theorem dX12_similar_114 : decode cX12_similar 114 = .ok (.aload_n 0, 1) := by decide +kernel
theorem dX12_similar_115 : decode cX12_similar 115 = .ok (.getfield 32, 3) := by decide +kernel
theorem dX12_similar_118 : decode cX12_similar 118 = .ok (.aload_n 0, 1) := by decide +kernel
theorem dX12_similar_119 : decode cX12_similar 119 = .ok (.getfield 154, 3) := by decide +kernel
theorem dX12_similar_122 : decode cX12_similar 122 = .ok (.iconst 0, 1) := by decide +kernel
theorem dX12_similar_123 : decode cX12_similar 123 = .ok (.bastore, 1) := by decide +kernel
theorem dX12_similar_124 : decode cX12_similar 124 = .ok (.aload_n 0, 1) := by decide +kernel
theorem dX12_similar_125 : decode cX12_similar 125 = .ok (.getfield 36, 3) := by decide +kernel
theorem dX12_similar_128 : decode cX12_similar 128 = .ok (.aload_n 0, 1) := by decide +kernel
theorem dX12_similar_129 : decode cX12_similar 129 = .ok (.getfield 154, 3) := by decide +kernel
theorem dX12_similar_132 : decode cX12_similar 132 = .ok (.iconst 0, 1) := by decide +kernel
theorem dX12_similar_133 : decode cX12_similar 133 = .ok (.iastore, 1) := by decide +kernel
theorem dX12_similar_134 : decode cX12_similar 134 = .ok (.aload_n 0, 1) := by decide +kernel
theorem dX12_similar_135 : decode cX12_similar 135 = .ok (.getfield 39, 3) := by decide +kernel
theorem dX12_similar_138 : decode cX12_similar 138 = .ok (.aload_n 0, 1) := by decide +kernel
theorem dX12_similar_139 : decode cX12_similar 139 = .ok (.getfield 154, 3) := by decide +kernel
theorem dX12_similar_142 : decode cX12_similar 142 = .ok (.iload 7, 2) := by decide +kernel
theorem dX12_similar_144 : decode cX12_similar 144 = .ok (.bipush 9, 2) := by decide +kernel
theorem dX12_similar_146 : decode cX12_similar 146 = .ok (.if_icmp .le 8, 3) := by decide +kernel
theorem dX12_similar_149 : decode cX12_similar 149 = .ok (.bipush 9, 2) := by decide +kernel
theorem dX12_similar_151 : decode cX12_similar 151 = .ok (.goto 5, 3) := by decide +kernel
theorem dX12_similar_154 : decode cX12_similar 154 = .ok (.iload 7, 2) := by decide +kernel
theorem dX12_similar_156 : decode cX12_similar 156 = .ok (.iastore, 1) := by decide +kernel
theorem dX12_similar_157 : decode cX12_similar 157 = .ok (.aload_n 0, 1) := by decide +kernel
theorem dX12_similar_158 : decode cX12_similar 158 = .ok (.dup, 1) := by decide +kernel
theorem dX12_similar_159 : decode cX12_similar 159 = .ok (.getfield 154, 3) := by decide +kernel
theorem dX12_similar_162 : decode cX12_similar 162 = .ok (.iconst 1, 1) := by decide +kernel
theorem dX12_similar_163 : decode cX12_similar 163 = .ok (.iadd, 1) := by decide +kernel
theorem dX12_similar_164 : decode cX12_similar 164 = .ok (.putfield 154, 3) := by decide +kernel
theorem dX12_similar_167 : decode cX12_similar 167 = .ok (.iinc 4 1, 3) := by decide +kernel
theorem dX12_similar_170 : decode cX12_similar 170 = .ok (.goto (-112), 3) := by decide +kernel
theorem dX12_similar_173 : decode cX12_similar 173 = .ok (.aload_n 0, 1) := by decide +kernel
theorem dX12_similar_174 : decode cX12_similar 174 = .ok (.iload_n 2, 1) := by decide +kernel
theorem dX12_similar_175 : decode cX12_similar 175 = .ok (.iload_n 1, 1) := by decide +kernel
theorem dX12_similar_176 : decode cX12_similar 176 = .ok (.invokevirtual 190, 3) := by decide +kernel
theorem dX12_similar_179 : decode cX12_similar 179 = .ok (.ireturn, 1) := by decide +kernel
theorem dX12_hit_0 : decode cX12_hit 0 = .ok (.aload_n 0, 1) := by decide +kernel
theorem dX12_hit_1 : decode cX12_hit 1 = .ok (.iload_n 1, 1) := by decide +kernel
theorem dX12_hit_2 : decode cX12_hit 2 = .ok (.ifCond .lt 11, 3) := by decide +kernel
theorem dX12_hit_5 : decode cX12_hit 5 = .ok (.iload_n 1, 1) := by decide +kernel
theorem dX12_hit_6 : decode cX12_hit 6 = .ok (.aload_n 0, 1) := by decide +kernel
theorem dX12_hit_7 : decode cX12_hit 7 = .ok (.getfield 184, 3) := by decide +kernel
theorem dX12_hit_10 : decode cX12_hit 10 = .ok (.if_icmp .lt 7, 3) := by decide +kernel
theorem dX12_hit_13 : decode cX12_hit 13 = .ok (.iconst 1, 1) := by decide +kernel
theorem dX12_hit_14 : decode cX12_hit 14 = .ok (.goto 4, 3) := by decide +kernel
theorem dX12_hit_17 : decode cX12_hit 17 = .ok (.iconst 0, 1) := by decide +kernel
theorem dX12_hit_18 : decode cX12_hit 18 = .ok (.putfield 68, 3) := by decide +kernel
theorem dX12_hit_21 : decode cX12_hit 21 = .ok (.aload_n 0, 1) := by decide +kernel
theorem dX12_hit_22 : decode cX12_hit 22 = .ok (.getfield 68, 3) := by decide +kernel
theorem dX12_hit_25 : decode cX12_hit 25 = .ok (.ifCond .le 7, 3) := by decide +kernel
theorem dX12_hit_28 : decode cX12_hit 28 = .ok (.iconst 0, 1) := by decide +kernel
theorem dX12_hit_29 : decode cX12_hit 29 = .ok (.goto 9, 3) := by decide +kernel
theorem dX12_hit_32 : decode cX12_hit 32 = .ok (.aload_n 0, 1) := by decide +kernel
theorem dX12_hit_33 : decode cX12_hit 33 = .ok (.getfield 49, 3) := by decide +kernel
theorem dX12_hit_36 : decode cX12_hit 36 = .ok (.iload_n 1, 1) := by decide +kernel
theorem dX12_hit_37 : decode cX12_hit 37 = .ok (.iaload, 1) := by decide +kernel
theorem dX12_hit_38 : decode cX12_hit 38 = .ok (.ireturn, 1) := by decide +kernel
theorem dX12_score_0 : decode cX12_score 0 = .ok (.aload_n 0, 1) := by decide +kernel
theorem dX12_score_1 : decode cX12_score 1 = .ok (.iload_n 1, 1) := by decide +kernel
theorem dX12_score_2 : decode cX12_score 2 = .ok (.ifCond .lt 11, 3) := by decide +kernel
theorem dX12_score_5 : decode cX12_score 5 = .ok (.iload_n 1, 1) := by decide +kernel
theorem dX12_score_6 : decode cX12_score 6 = .ok (.aload_n 0, 1) := by decide +kernel
theorem dX12_score_7 : decode cX12_score 7 = .ok (.getfield 184, 3) := by decide +kernel
theorem dX12_score_10 : decode cX12_score 10 = .ok (.if_icmp .lt 7, 3) := by decide +kernel
theorem dX12_score_13 : decode cX12_score 13 = .ok (.iconst 1, 1) := by decide +kernel
theorem dX12_score_14 : decode cX12_score 14 = .ok (.goto 4, 3) := by decide +kernel
theorem dX12_score_17 : decode cX12_score 17 = .ok (.iconst 0, 1) := by decide +kernel
theorem dX12_score_18 : decode cX12_score 18 = .ok (.putfield 68, 3) := by decide +kernel
theorem dX12_score_21 : decode cX12_score 21 = .ok (.aload_n 0, 1) := by decide +kernel
theorem dX12_score_22 : decode cX12_score 22 = .ok (.getfield 68, 3) := by decide +kernel
theorem dX12_score_25 : decode cX12_score 25 = .ok (.ifCond .le 7, 3) := by decide +kernel
theorem dX12_score_28 : decode cX12_score 28 = .ok (.iconst 0, 1) := by decide +kernel
theorem dX12_score_29 : decode cX12_score 29 = .ok (.goto 9, 3) := by decide +kernel
theorem dX12_score_32 : decode cX12_score 32 = .ok (.aload_n 0, 1) := by decide +kernel
theorem dX12_score_33 : decode cX12_score 33 = .ok (.getfield 52, 3) := by decide +kernel
theorem dX12_score_36 : decode cX12_score 36 = .ok (.iload_n 1, 1) := by decide +kernel
theorem dX12_score_37 : decode cX12_score 37 = .ok (.iaload, 1) := by decide +kernel
end
section
theorem dX12_score_38 : decode cX12_score 38 = .ok (.ireturn, 1) := by decide +kernel
theorem dJ9_max_7cf53_0 : decode cJ9_max_7cf53 0 = .ok (.iload_n 0, 1) := by decide +kernel
theorem dJ9_max_7cf53_1 : decode cJ9_max_7cf53 1 = .ok (.iload_n 1, 1) := by decide +kernel
theorem dJ9_max_7cf53_2 : decode cJ9_max_7cf53 2 = .ok (.if_icmp .lt 7, 3) := by decide +kernel
theorem dJ9_max_7cf53_5 : decode cJ9_max_7cf53 5 = .ok (.iload_n 0, 1) := by decide +kernel
theorem dJ9_max_7cf53_6 : decode cJ9_max_7cf53 6 = .ok (.goto 4, 3) := by decide +kernel
theorem dJ9_max_7cf53_9 : decode cJ9_max_7cf53 9 = .ok (.iload_n 1, 1) := by decide +kernel
theorem dJ9_max_7cf53_10 : decode cJ9_max_7cf53 10 = .ok (.ireturn, 1) := by decide +kernel
theorem dJ9_min_7cf53_0 : decode cJ9_min_7cf53 0 = .ok (.iload_n 0, 1) := by decide +kernel
theorem dJ9_min_7cf53_1 : decode cJ9_min_7cf53 1 = .ok (.iload_n 1, 1) := by decide +kernel
theorem dJ9_min_7cf53_2 : decode cJ9_min_7cf53 2 = .ok (.if_icmp .gt 7, 3) := by decide +kernel
theorem dJ9_min_7cf53_5 : decode cJ9_min_7cf53 5 = .ok (.iload_n 0, 1) := by decide +kernel
theorem dJ9_min_7cf53_6 : decode cJ9_min_7cf53 6 = .ok (.goto 4, 3) := by decide +kernel
theorem dJ9_min_7cf53_9 : decode cJ9_min_7cf53 9 = .ok (.iload_n 1, 1) := by decide +kernel
theorem dJ9_min_7cf53_10 : decode cJ9_min_7cf53 10 = .ok (.ireturn, 1) := by decide +kernel
theorem dJxa1e45_init_da8c8_0 : decode cJxa1e45_init_da8c8 0 = .ok (.aload_n 0, 1) := by decide +kernel
theorem dJxa1e45_init_da8c8_1 : decode cJxa1e45_init_da8c8 1 = .ok (.invokespecial 1, 3) := by decide +kernel
theorem dJxa1e45_init_da8c8_4 : decode cJxa1e45_init_da8c8 4 = .ok (.return_, 1) := by decide +kernel
theorem dJxc12de_init_da8c8_0 : decode cJxc12de_init_da8c8 0 = .ok (.aload_n 0, 1) := by decide +kernel
theorem dJxc12de_init_da8c8_1 : decode cJxc12de_init_da8c8 1 = .ok (.invokespecial 1, 3) := by decide +kernel
theorem dJxc12de_init_da8c8_4 : decode cJxc12de_init_da8c8 4 = .ok (.aload_n 0, 1) := by decide +kernel
theorem dJxc12de_init_da8c8_5 : decode cJxc12de_init_da8c8 5 = .ok (.iconst 0, 1) := by decide +kernel
theorem dJxc12de_init_da8c8_6 : decode cJxc12de_init_da8c8 6 = .ok (.putfield 7, 3) := by decide +kernel
theorem dJxc12de_init_da8c8_9 : decode cJxc12de_init_da8c8 9 = .ok (.return_, 1) := by decide +kernel
theorem dJx4a65c_init_da8c8_0 : decode cJx4a65c_init_da8c8 0 = .ok (.aload_n 0, 1) := by decide +kernel
theorem dJx4a65c_init_da8c8_1 : decode cJx4a65c_init_da8c8 1 = .ok (.invokespecial 1, 3) := by decide +kernel
theorem dJx4a65c_init_da8c8_4 : decode cJx4a65c_init_da8c8 4 = .ok (.aload_n 0, 1) := by decide +kernel
theorem dJx4a65c_init_da8c8_5 : decode cJx4a65c_init_da8c8 5 = .ok (.getstatic 39, 3) := by decide +kernel
theorem dJx4a65c_init_da8c8_8 : decode cJx4a65c_init_da8c8 8 = .ok (.putfield 9, 3) := by decide +kernel
theorem dJx4a65c_init_da8c8_11 : decode cJx4a65c_init_da8c8 11 = .ok (.return_, 1) := by decide +kernel
theorem dJx4a65c_grow_92f84_0 : decode cJx4a65c_grow_92f84 0 = .ok (.aload_n 0, 1) := by decide +kernel
theorem dJx4a65c_grow_92f84_1 : decode cJx4a65c_grow_92f84 1 = .ok (.getfield 9, 3) := by decide +kernel
theorem dJx4a65c_grow_92f84_4 : decode cJx4a65c_grow_92f84 4 = .ok (.arraylength, 1) := by decide +kernel
theorem dJx4a65c_grow_92f84_5 : decode cJx4a65c_grow_92f84 5 = .ok (.istore_n 2, 1) := by decide +kernel
theorem dJx4a65c_grow_92f84_6 : decode cJx4a65c_grow_92f84 6 = .ok (.iload_n 2, 1) := by decide +kernel
theorem dJx4a65c_grow_92f84_7 : decode cJx4a65c_grow_92f84 7 = .ok (.ifCond .gt 13, 3) := by decide +kernel
theorem dJx4a65c_grow_92f84_10 : decode cJx4a65c_grow_92f84 10 = .ok (.aload_n 0, 1) := by decide +kernel
theorem dJx4a65c_grow_92f84_11 : decode cJx4a65c_grow_92f84 11 = .ok (.getfield 9, 3) := by decide +kernel
theorem dJx4a65c_grow_92f84_14 : decode cJx4a65c_grow_92f84 14 = .ok (.getstatic 39, 3) := by decide +kernel
theorem dJx4a65c_grow_92f84_17 : decode cJx4a65c_grow_92f84 17 = .ok (.if_acmp .eq 28, 3) := by decide +kernel
theorem dJx4a65c_grow_92f84_20 : decode cJx4a65c_grow_92f84 20 = .ok (.iload_n 2, 1) := by decide +kernel
theorem dJx4a65c_grow_92f84_21 : decode cJx4a65c_grow_92f84 21 = .ok (.iload_n 1, 1) := by decide +kernel
theorem dJx4a65c_grow_92f84_22 : decode cJx4a65c_grow_92f84 22 = .ok (.iload_n 2, 1) := by decide +kernel
theorem dJx4a65c_grow_92f84_23 : decode cJx4a65c_grow_92f84 23 = .ok (.isub, 1) := by decide +kernel
theorem dJx4a65c_grow_92f84_24 : decode cJx4a65c_grow_92f84 24 = .ok (.iload_n 2, 1) := by decide +kernel
theorem dJx4a65c_grow_92f84_25 : decode cJx4a65c_grow_92f84 25 = .ok (.iconst 1, 1) := by decide +kernel
theorem dJx4a65c_grow_92f84_26 : decode cJx4a65c_grow_92f84 26 = .ok (.ishr, 1) := by decide +kernel
theorem dJx4a65c_grow_92f84_27 : decode cJx4a65c_grow_92f84 27 = .ok (.invokestatic 73, 3) := by decide +kernel
theorem dJx4a65c_grow_92f84_30 : decode cJx4a65c_grow_92f84 30 = .ok (.istore_n 3, 1) := by decide +kernel
theorem dJx4a65c_grow_92f84_31 : decode cJx4a65c_grow_92f84 31 = .ok (.aload_n 0, 1) := by decide +kernel
theorem dJx4a65c_grow_92f84_32 : decode cJx4a65c_grow_92f84 32 = .ok (.aload_n 0, 1) := by decide +kernel
theorem dJx4a65c_grow_92f84_33 : decode cJx4a65c_grow_92f84 33 = .ok (.getfield 9, 3) := by decide +kernel
theorem dJx4a65c_grow_92f84_36 : decode cJx4a65c_grow_92f84 36 = .ok (.iload_n 3, 1) := by decide +kernel
theorem dJx4a65c_grow_92f84_37 : decode cJx4a65c_grow_92f84 37 = .ok (.invokestatic 66, 3) := by decide +kernel
theorem dJx4a65c_grow_92f84_40 : decode cJx4a65c_grow_92f84 40 = .ok (.dup_x1, 1) := by decide +kernel
theorem dJx4a65c_grow_92f84_41 : decode cJx4a65c_grow_92f84 41 = .ok (.putfield 9, 3) := by decide +kernel
theorem dJx4a65c_grow_92f84_44 : decode cJx4a65c_grow_92f84 44 = .ok (.areturn, 1) := by decide +kernel
theorem dJx4a65c_grow_92f84_45 : decode cJx4a65c_grow_92f84 45 = .ok (.aload_n 0, 1) := by decide +kernel
theorem dJx4a65c_grow_92f84_46 : decode cJx4a65c_grow_92f84 46 = .ok (.bipush 10, 2) := by decide +kernel
theorem dJx4a65c_grow_92f84_48 : decode cJx4a65c_grow_92f84 48 = .ok (.iload_n 1, 1) := by decide +kernel
theorem dJx4a65c_grow_92f84_49 : decode cJx4a65c_grow_92f84 49 = .ok (.invokestatic 79, 3) := by decide +kernel
theorem dJx4a65c_grow_92f84_52 : decode cJx4a65c_grow_92f84 52 = .ok (.anewarray 7, 3) := by decide +kernel
theorem dJx4a65c_grow_92f84_55 : decode cJx4a65c_grow_92f84 55 = .ok (.dup_x1, 1) := by decide +kernel
theorem dJx4a65c_grow_92f84_56 : decode cJx4a65c_grow_92f84 56 = .ok (.putfield 9, 3) := by decide +kernel
theorem dJx4a65c_grow_92f84_59 : decode cJx4a65c_grow_92f84 59 = .ok (.areturn, 1) := by decide +kernel
theorem dJx4a65c_grow_d5877_0 : decode cJx4a65c_grow_d5877 0 = .ok (.aload_n 0, 1) := by decide +kernel
theorem dJx4a65c_grow_d5877_1 : decode cJx4a65c_grow_d5877 1 = .ok (.aload_n 0, 1) := by decide +kernel
theorem dJx4a65c_grow_d5877_2 : decode cJx4a65c_grow_d5877 2 = .ok (.getfield 48, 3) := by decide +kernel
theorem dJx4a65c_grow_d5877_5 : decode cJx4a65c_grow_d5877 5 = .ok (.iconst 1, 1) := by decide +kernel
theorem dJx4a65c_grow_d5877_6 : decode cJx4a65c_grow_d5877 6 = .ok (.iadd, 1) := by decide +kernel
theorem dJx4a65c_grow_d5877_7 : decode cJx4a65c_grow_d5877 7 = .ok (.invokevirtual 69, 3) := by decide +kernel
theorem dJx4a65c_grow_d5877_10 : decode cJx4a65c_grow_d5877 10 = .ok (.areturn, 1) := by decide +kernel
theorem dJx4a65c_size_8abf5_0 : decode cJx4a65c_size_8abf5 0 = .ok (.aload_n 0, 1) := by decide +kernel
theorem dJx4a65c_size_8abf5_1 : decode cJx4a65c_size_8abf5 1 = .ok (.getfield 48, 3) := by decide +kernel
theorem dJx4a65c_size_8abf5_4 : decode cJx4a65c_size_8abf5 4 = .ok (.ireturn, 1) := by decide +kernel
theorem dJx4a65c_elementData_915e3_0 : decode cJx4a65c_elementData_915e3 0 = .ok (.aload_n 0, 1) := by decide +kernel
theorem dJx4a65c_elementData_915e3_1 : decode cJx4a65c_elementData_915e3 1 = .ok (.getfield 9, 3) := by decide +kernel
theorem dJx4a65c_elementData_915e3_4 : decode cJx4a65c_elementData_915e3 4 = .ok (.iload_n 1, 1) := by decide +kernel
theorem dJx4a65c_elementData_915e3_5 : decode cJx4a65c_elementData_915e3 5 = .ok (.aaload, 1) := by decide +kernel
theorem dJx4a65c_elementData_915e3_6 : decode cJx4a65c_elementData_915e3 6 = .ok (.areturn, 1) := by decide +kernel
theorem dJx4a65c_get_915e3_0 : decode cJx4a65c_get_915e3 0 = .ok (.iload_n 1, 1) := by decide +kernel
theorem dJx4a65c_get_915e3_1 : decode cJx4a65c_get_915e3 1 = .ok (.aload_n 0, 1) := by decide +kernel
theorem dJx4a65c_get_915e3_2 : decode cJx4a65c_get_915e3 2 = .ok (.getfield 48, 3) := by decide +kernel
theorem dJx4a65c_get_915e3_5 : decode cJx4a65c_get_915e3 5 = .ok (.invokestatic 118, 3) := by decide +kernel
theorem dJx4a65c_get_915e3_8 : decode cJx4a65c_get_915e3 8 = .ok (.pop, 1) := by decide +kernel
theorem dJx4a65c_get_915e3_9 : decode cJx4a65c_get_915e3 9 = .ok (.aload_n 0, 1) := by decide +kernel
theorem dJx4a65c_get_915e3_10 : decode cJx4a65c_get_915e3 10 = .ok (.iload_n 1, 1) := by decide +kernel
theorem dJx4a65c_get_915e3_11 : decode cJx4a65c_get_915e3 11 = .ok (.invokevirtual 123, 3) := by decide +kernel
theorem dJx4a65c_get_915e3_14 : decode cJx4a65c_get_915e3 14 = .ok (.areturn, 1) := by decide +kernel
theorem dJx4a65c_add_72be8_0 : decode cJx4a65c_add_72be8 0 = .ok (.iload_n 3, 1) := by decide +kernel
theorem dJx4a65c_add_72be8_1 : decode cJx4a65c_add_72be8 1 = .ok (.aload_n 2, 1) := by decide +kernel
theorem dJx4a65c_add_72be8_2 : decode cJx4a65c_add_72be8 2 = .ok (.arraylength, 1) := by decide +kernel
theorem dJx4a65c_add_72be8_3 : decode cJx4a65c_add_72be8 3 = .ok (.if_icmp .ne 8, 3) := by decide +kernel
theorem dJx4a65c_add_72be8_6 : decode cJx4a65c_add_72be8 6 = .ok (.aload_n 0, 1) := by decide +kernel
theorem dJx4a65c_add_72be8_7 : decode cJx4a65c_add_72be8 7 = .ok (.invokevirtual 129, 3) := by decide +kernel
theorem dJx4a65c_add_72be8_10 : decode cJx4a65c_add_72be8 10 = .ok (.astore_n 2, 1) := by decide +kernel
theorem dJx4a65c_add_72be8_11 : decode cJx4a65c_add_72be8 11 = .ok (.aload_n 2, 1) := by decide +kernel
theorem dJx4a65c_add_72be8_12 : decode cJx4a65c_add_72be8 12 = .ok (.iload_n 3, 1) := by decide +kernel
theorem dJx4a65c_add_72be8_13 : decode cJx4a65c_add_72be8 13 = .ok (.aload_n 1, 1) := by decide +kernel
theorem dJx4a65c_add_72be8_14 : decode cJx4a65c_add_72be8 14 = .ok (.aastore, 1) := by decide +kernel
theorem dJx4a65c_add_72be8_15 : decode cJx4a65c_add_72be8 15 = .ok (.aload_n 0, 1) := by decide +kernel
theorem dJx4a65c_add_72be8_16 : decode cJx4a65c_add_72be8 16 = .ok (.iload_n 3, 1) := by decide +kernel
theorem dJx4a65c_add_72be8_17 : decode cJx4a65c_add_72be8 17 = .ok (.iconst 1, 1) := by decide +kernel
theorem dJx4a65c_add_72be8_18 : decode cJx4a65c_add_72be8 18 = .ok (.iadd, 1) := by decide +kernel
theorem dJx4a65c_add_72be8_19 : decode cJx4a65c_add_72be8 19 = .ok (.putfield 48, 3) := by decide +kernel
theorem dJx4a65c_add_72be8_22 : decode cJx4a65c_add_72be8 22 = .ok (.return_, 1) := by decide +kernel
theorem dJx4a65c_add_9ea2d_0 : decode cJx4a65c_add_9ea2d 0 = .ok (.aload_n 0, 1) := by decide +kernel
theorem dJx4a65c_add_9ea2d_1 : decode cJx4a65c_add_9ea2d 1 = .ok (.dup, 1) := by decide +kernel
theorem dJx4a65c_add_9ea2d_2 : decode cJx4a65c_add_9ea2d 2 = .ok (.getfield 63, 3) := by decide +kernel
theorem dJx4a65c_add_9ea2d_5 : decode cJx4a65c_add_9ea2d 5 = .ok (.iconst 1, 1) := by decide +kernel
theorem dJx4a65c_add_9ea2d_6 : decode cJx4a65c_add_9ea2d 6 = .ok (.iadd, 1) := by decide +kernel
theorem dJx4a65c_add_9ea2d_7 : decode cJx4a65c_add_9ea2d 7 = .ok (.putfield 63, 3) := by decide +kernel
theorem dJx4a65c_add_9ea2d_10 : decode cJx4a65c_add_9ea2d 10 = .ok (.aload_n 0, 1) := by decide +kernel
theorem dJx4a65c_add_9ea2d_11 : decode cJx4a65c_add_9ea2d 11 = .ok (.aload_n 1, 1) := by decide +kernel
theorem dJx4a65c_add_9ea2d_12 : decode cJx4a65c_add_9ea2d 12 = .ok (.aload_n 0, 1) := by decide +kernel
theorem dJx4a65c_add_9ea2d_13 : decode cJx4a65c_add_9ea2d 13 = .ok (.getfield 9, 3) := by decide +kernel
theorem dJx4a65c_add_9ea2d_16 : decode cJx4a65c_add_9ea2d 16 = .ok (.aload_n 0, 1) := by decide +kernel
theorem dJx4a65c_add_9ea2d_17 : decode cJx4a65c_add_9ea2d 17 = .ok (.getfield 48, 3) := by decide +kernel
theorem dJx4a65c_add_9ea2d_20 : decode cJx4a65c_add_9ea2d 20 = .ok (.invokevirtual 131, 3) := by decide +kernel
theorem dJx4a65c_add_9ea2d_23 : decode cJx4a65c_add_9ea2d 23 = .ok (.iconst 1, 1) := by decide +kernel
theorem dJx4a65c_add_9ea2d_24 : decode cJx4a65c_add_9ea2d 24 = .ok (.ireturn, 1) := by decide +kernel
theorem dJx4a65c_add_7a177_0 : decode cJx4a65c_add_7a177 0 = .ok (.aload_n 0, 1) := by decide +kernel
theorem dJx4a65c_add_7a177_1 : decode cJx4a65c_add_7a177 1 = .ok (.iload_n 1, 1) := by decide +kernel
theorem dJx4a65c_add_7a177_2 : decode cJx4a65c_add_7a177 2 = .ok (.invokevirtual 135, 3) := by decide +kernel
theorem dJx4a65c_add_7a177_5 : decode cJx4a65c_add_7a177 5 = .ok (.aload_n 0, 1) := by decide +kernel
theorem dJx4a65c_add_7a177_6 : decode cJx4a65c_add_7a177 6 = .ok (.dup, 1) := by decide +kernel
theorem dJx4a65c_add_7a177_7 : decode cJx4a65c_add_7a177 7 = .ok (.getfield 63, 3) := by decide +kernel
theorem dJx4a65c_add_7a177_10 : decode cJx4a65c_add_7a177 10 = .ok (.iconst 1, 1) := by decide +kernel
theorem dJx4a65c_add_7a177_11 : decode cJx4a65c_add_7a177 11 = .ok (.iadd, 1) := by decide +kernel
theorem dJx4a65c_add_7a177_12 : decode cJx4a65c_add_7a177 12 = .ok (.putfield 63, 3) := by decide +kernel
theorem dJx4a65c_add_7a177_15 : decode cJx4a65c_add_7a177 15 = .ok (.aload_n 0, 1) := by decide +kernel
theorem dJx4a65c_add_7a177_16 : decode cJx4a65c_add_7a177 16 = .ok (.getfield 48, 3) := by decide +kernel
theorem dJx4a65c_add_7a177_19 : decode cJx4a65c_add_7a177 19 = .ok (.dup, 1) := by decide +kernel
theorem dJx4a65c_add_7a177_20 : decode cJx4a65c_add_7a177 20 = .ok (.istore_n 3, 1) := by decide +kernel
theorem dJx4a65c_add_7a177_21 : decode cJx4a65c_add_7a177 21 = .ok (.aload_n 0, 1) := by decide +kernel
theorem dJx4a65c_add_7a177_22 : decode cJx4a65c_add_7a177 22 = .ok (.getfield 9, 3) := by decide +kernel
theorem dJx4a65c_add_7a177_25 : decode cJx4a65c_add_7a177 25 = .ok (.dup, 1) := by decide +kernel
theorem dJx4a65c_add_7a177_26 : decode cJx4a65c_add_7a177 26 = .ok (.astore 4, 2) := by decide +kernel
theorem dJx4a65c_add_7a177_28 : decode cJx4a65c_add_7a177 28 = .ok (.arraylength, 1) := by decide +kernel
theorem dJx4a65c_add_7a177_29 : decode cJx4a65c_add_7a177 29 = .ok (.if_icmp .ne 9, 3) := by decide +kernel
theorem dJx4a65c_add_7a177_32 : decode cJx4a65c_add_7a177 32 = .ok (.aload_n 0, 1) := by decide +kernel
theorem dJx4a65c_add_7a177_33 : decode cJx4a65c_add_7a177 33 = .ok (.invokevirtual 129, 3) := by decide +kernel
theorem dJx4a65c_add_7a177_36 : decode cJx4a65c_add_7a177 36 = .ok (.astore 4, 2) := by decide +kernel
theorem dJx4a65c_add_7a177_38 : decode cJx4a65c_add_7a177 38 = .ok (.aload 4, 2) := by decide +kernel
theorem dJx4a65c_add_7a177_40 : decode cJx4a65c_add_7a177 40 = .ok (.iload_n 1, 1) := by decide +kernel
theorem dJx4a65c_add_7a177_41 : decode cJx4a65c_add_7a177 41 = .ok (.aload 4, 2) := by decide +kernel
theorem dJx4a65c_add_7a177_43 : decode cJx4a65c_add_7a177 43 = .ok (.iload_n 1, 1) := by decide +kernel
theorem dJx4a65c_add_7a177_44 : decode cJx4a65c_add_7a177 44 = .ok (.iconst 1, 1) := by decide +kernel
theorem dJx4a65c_add_7a177_45 : decode cJx4a65c_add_7a177 45 = .ok (.iadd, 1) := by decide +kernel
theorem dJx4a65c_add_7a177_46 : decode cJx4a65c_add_7a177 46 = .ok (.iload_n 3, 1) := by decide +kernel
theorem dJx4a65c_add_7a177_47 : decode cJx4a65c_add_7a177 47 = .ok (.iload_n 1, 1) := by decide +kernel
theorem dJx4a65c_add_7a177_48 : decode cJx4a65c_add_7a177 48 = .ok (.isub, 1) := by decide +kernel
theorem dJx4a65c_add_7a177_49 : decode cJx4a65c_add_7a177 49 = .ok (.invokestatic 112, 3) := by decide +kernel
theorem dJx4a65c_add_7a177_52 : decode cJx4a65c_add_7a177 52 = .ok (.aload 4, 2) := by decide +kernel
theorem dJx4a65c_add_7a177_54 : decode cJx4a65c_add_7a177 54 = .ok (.iload_n 1, 1) := by decide +kernel
theorem dJx4a65c_add_7a177_55 : decode cJx4a65c_add_7a177 55 = .ok (.aload_n 2, 1) := by decide +kernel
theorem dJx4a65c_add_7a177_56 : decode cJx4a65c_add_7a177 56 = .ok (.aastore, 1) := by decide +kernel
theorem dJx4a65c_add_7a177_57 : decode cJx4a65c_add_7a177 57 = .ok (.aload_n 0, 1) := by decide +kernel
theorem dJx4a65c_add_7a177_58 : decode cJx4a65c_add_7a177 58 = .ok (.iload_n 3, 1) := by decide +kernel
theorem dJx4a65c_add_7a177_59 : decode cJx4a65c_add_7a177 59 = .ok (.iconst 1, 1) := by decide +kernel
theorem dJx4a65c_add_7a177_60 : decode cJx4a65c_add_7a177 60 = .ok (.iadd, 1) := by decide +kernel
theorem dJx4a65c_add_7a177_61 : decode cJx4a65c_add_7a177 61 = .ok (.putfield 48, 3) := by decide +kernel
theorem dJx4a65c_add_7a177_64 : decode cJx4a65c_add_7a177 64 = .ok (.return_, 1) := by decide +kernel
theorem dJx4a65c_remove_915e3_0 : decode cJx4a65c_remove_915e3 0 = .ok (.iload_n 1, 1) := by decide +kernel
theorem dJx4a65c_remove_915e3_1 : decode cJx4a65c_remove_915e3 1 = .ok (.aload_n 0, 1) := by decide +kernel
theorem dJx4a65c_remove_915e3_2 : decode cJx4a65c_remove_915e3 2 = .ok (.getfield 48, 3) := by decide +kernel
theorem dJx4a65c_remove_915e3_5 : decode cJx4a65c_remove_915e3 5 = .ok (.invokestatic 118, 3) := by decide +kernel
theorem dJx4a65c_remove_915e3_8 : decode cJx4a65c_remove_915e3 8 = .ok (.pop, 1) := by decide +kernel
theorem dJx4a65c_remove_915e3_9 : decode cJx4a65c_remove_915e3 9 = .ok (.aload_n 0, 1) := by decide +kernel
theorem dJx4a65c_remove_915e3_10 : decode cJx4a65c_remove_915e3 10 = .ok (.getfield 9, 3) := by decide +kernel
theorem dJx4a65c_remove_915e3_13 : decode cJx4a65c_remove_915e3 13 = .ok (.astore_n 2, 1) := by decide +kernel
theorem dJx4a65c_remove_915e3_14 : decode cJx4a65c_remove_915e3 14 = .ok (.aload_n 2, 1) := by decide +kernel
theorem dJx4a65c_remove_915e3_15 : decode cJx4a65c_remove_915e3 15 = .ok (.iload_n 1, 1) := by decide +kernel
theorem dJx4a65c_remove_915e3_16 : decode cJx4a65c_remove_915e3 16 = .ok (.aaload, 1) := by decide +kernel
theorem dJx4a65c_remove_915e3_17 : decode cJx4a65c_remove_915e3 17 = .ok (.astore_n 3, 1) := by decide +kernel
theorem dJx4a65c_remove_915e3_18 : decode cJx4a65c_remove_915e3 18 = .ok (.aload_n 0, 1) := by decide +kernel
theorem dJx4a65c_remove_915e3_19 : decode cJx4a65c_remove_915e3 19 = .ok (.aload_n 2, 1) := by decide +kernel
theorem dJx4a65c_remove_915e3_20 : decode cJx4a65c_remove_915e3 20 = .ok (.iload_n 1, 1) := by decide +kernel
theorem dJx4a65c_remove_915e3_21 : decode cJx4a65c_remove_915e3 21 = .ok (.invokevirtual 144, 3) := by decide +kernel
theorem dJx4a65c_remove_915e3_24 : decode cJx4a65c_remove_915e3 24 = .ok (.aload_n 3, 1) := by decide +kernel
theorem dJx4a65c_remove_915e3_25 : decode cJx4a65c_remove_915e3 25 = .ok (.areturn, 1) := by decide +kernel
theorem dJx4a65c_fastRemove_b59b0_0 : decode cJx4a65c_fastRemove_b59b0 0 = .ok (.aload_n 0, 1) := by decide +kernel
theorem dJx4a65c_fastRemove_b59b0_1 : decode cJx4a65c_fastRemove_b59b0 1 = .ok (.dup, 1) := by decide +kernel
theorem dJx4a65c_fastRemove_b59b0_2 : decode cJx4a65c_fastRemove_b59b0 2 = .ok (.getfield 63, 3) := by decide +kernel
theorem dJx4a65c_fastRemove_b59b0_5 : decode cJx4a65c_fastRemove_b59b0 5 = .ok (.iconst 1, 1) := by decide +kernel
theorem dJx4a65c_fastRemove_b59b0_6 : decode cJx4a65c_fastRemove_b59b0 6 = .ok (.iadd, 1) := by decide +kernel
theorem dJx4a65c_fastRemove_b59b0_7 : decode cJx4a65c_fastRemove_b59b0 7 = .ok (.putfield 63, 3) := by decide +kernel
theorem dJx4a65c_fastRemove_b59b0_10 : decode cJx4a65c_fastRemove_b59b0 10 = .ok (.aload_n 0, 1) := by decide +kernel
theorem dJx4a65c_fastRemove_b59b0_11 : decode cJx4a65c_fastRemove_b59b0 11 = .ok (.getfield 48, 3) := by decide +kernel
theorem dJx4a65c_fastRemove_b59b0_14 : decode cJx4a65c_fastRemove_b59b0 14 = .ok (.iconst 1, 1) := by decide +kernel
theorem dJx4a65c_fastRemove_b59b0_15 : decode cJx4a65c_fastRemove_b59b0 15 = .ok (.isub, 1) := by decide +kernel
theorem dJx4a65c_fastRemove_b59b0_16 : decode cJx4a65c_fastRemove_b59b0 16 = .ok (.dup, 1) := by decide +kernel
theorem dJx4a65c_fastRemove_b59b0_17 : decode cJx4a65c_fastRemove_b59b0 17 = .ok (.istore_n 3, 1) := by decide +kernel
theorem dJx4a65c_fastRemove_b59b0_18 : decode cJx4a65c_fastRemove_b59b0 18 = .ok (.iload_n 2, 1) := by decide +kernel
theorem dJx4a65c_fastRemove_b59b0_19 : decode cJx4a65c_fastRemove_b59b0 19 = .ok (.if_icmp .le 15, 3) := by decide +kernel
theorem dJx4a65c_fastRemove_b59b0_22 : decode cJx4a65c_fastRemove_b59b0 22 = .ok (.aload_n 1, 1) := by decide +kernel
theorem dJx4a65c_fastRemove_b59b0_23 : decode cJx4a65c_fastRemove_b59b0 23 = .ok (.iload_n 2, 1) := by decide +kernel
theorem dJx4a65c_fastRemove_b59b0_24 : decode cJx4a65c_fastRemove_b59b0 24 = .ok (.iconst 1, 1) := by decide +kernel
theorem dJx4a65c_fastRemove_b59b0_25 : decode cJx4a65c_fastRemove_b59b0 25 = .ok (.iadd, 1) := by decide +kernel
theorem dJx4a65c_fastRemove_b59b0_26 : decode cJx4a65c_fastRemove_b59b0 26 = .ok (.aload_n 1, 1) := by decide +kernel
theorem dJx4a65c_fastRemove_b59b0_27 : decode cJx4a65c_fastRemove_b59b0 27 = .ok (.iload_n 2, 1) := by decide +kernel
theorem dJx4a65c_fastRemove_b59b0_28 : decode cJx4a65c_fastRemove_b59b0 28 = .ok (.iload_n 3, 1) := by decide +kernel
theorem dJx4a65c_fastRemove_b59b0_29 : decode cJx4a65c_fastRemove_b59b0 29 = .ok (.iload_n 2, 1) := by decide +kernel
theorem dJx4a65c_fastRemove_b59b0_30 : decode cJx4a65c_fastRemove_b59b0 30 = .ok (.isub, 1) := by decide +kernel
theorem dJx4a65c_fastRemove_b59b0_31 : decode cJx4a65c_fastRemove_b59b0 31 = .ok (.invokestatic 112, 3) := by decide +kernel
theorem dJx4a65c_fastRemove_b59b0_34 : decode cJx4a65c_fastRemove_b59b0 34 = .ok (.aload_n 1, 1) := by decide +kernel
theorem dJx4a65c_fastRemove_b59b0_35 : decode cJx4a65c_fastRemove_b59b0 35 = .ok (.aload_n 0, 1) := by decide +kernel
theorem dJx4a65c_fastRemove_b59b0_36 : decode cJx4a65c_fastRemove_b59b0 36 = .ok (.iload_n 3, 1) := by decide +kernel
theorem dJx4a65c_fastRemove_b59b0_37 : decode cJx4a65c_fastRemove_b59b0 37 = .ok (.dup_x1, 1) := by decide +kernel
theorem dJx4a65c_fastRemove_b59b0_38 : decode cJx4a65c_fastRemove_b59b0 38 = .ok (.putfield 48, 3) := by decide +kernel
theorem dJx4a65c_fastRemove_b59b0_41 : decode cJx4a65c_fastRemove_b59b0 41 = .ok (.aconst_null, 1) := by decide +kernel
theorem dJx4a65c_fastRemove_b59b0_42 : decode cJx4a65c_fastRemove_b59b0 42 = .ok (.aastore, 1) := by decide +kernel
theorem dJx4a65c_fastRemove_b59b0_43 : decode cJx4a65c_fastRemove_b59b0 43 = .ok (.return_, 1) := by decide +kernel
theorem dJx4a65c_rangeCheckForAdd_d00df_0 : decode cJx4a65c_rangeCheckForAdd_d00df 0 = .ok (.iload_n 1, 1) := by decide +kernel
theorem dJx4a65c_rangeCheckForAdd_d00df_1 : decode cJx4a65c_rangeCheckForAdd_d00df 1 = .ok (.aload_n 0, 1) := by decide +kernel
theorem dJx4a65c_rangeCheckForAdd_d00df_2 : decode cJx4a65c_rangeCheckForAdd_d00df 2 = .ok (.getfield 48, 3) := by decide +kernel
theorem dJx4a65c_rangeCheckForAdd_d00df_5 : decode cJx4a65c_rangeCheckForAdd_d00df 5 = .ok (.if_icmp .gt 7, 3) := by decide +kernel
theorem dJx4a65c_rangeCheckForAdd_d00df_8 : decode cJx4a65c_rangeCheckForAdd_d00df 8 = .ok (.iload_n 1, 1) := by decide +kernel
theorem dJx4a65c_rangeCheckForAdd_d00df_9 : decode cJx4a65c_rangeCheckForAdd_d00df 9 = .ok (.ifCond .ge 16, 3) := by decide +kernel
theorem dJx4a65c_rangeCheckForAdd_d00df_12 : decode cJx4a65c_rangeCheckForAdd_d00df 12 = .ok (.new 187, 3) := by decide +kernel
theorem dJx4a65c_rangeCheckForAdd_d00df_15 : decode cJx4a65c_rangeCheckForAdd_d00df 15 = .ok (.dup, 1) := by decide +kernel
theorem dJx4a65c_rangeCheckForAdd_d00df_16 : decode cJx4a65c_rangeCheckForAdd_d00df 16 = .ok (.aload_n 0, 1) := by decide +kernel
theorem dJx4a65c_rangeCheckForAdd_d00df_17 : decode cJx4a65c_rangeCheckForAdd_d00df 17 = .ok (.iload_n 1, 1) := by decide +kernel
theorem dJx4a65c_rangeCheckForAdd_d00df_18 : decode cJx4a65c_rangeCheckForAdd_d00df 18 = .ok (.invokevirtual 198, 3) := by decide +kernel
theorem dJx4a65c_rangeCheckForAdd_d00df_21 : decode cJx4a65c_rangeCheckForAdd_d00df 21 = .ok (.invokespecial 193, 3) := by decide +kernel
theorem dJx4a65c_rangeCheckForAdd_d00df_24 : decode cJx4a65c_rangeCheckForAdd_d00df 24 = .ok (.athrow, 1) := by decide +kernel
theorem dJx4a65c_rangeCheckForAdd_d00df_25 : decode cJx4a65c_rangeCheckForAdd_d00df 25 = .ok (.return_, 1) := by decide +kernel
theorem dJ7_copyOf_1904c_0 : decode cJ7_copyOf_1904c 0 = .ok (.aload_n 0, 1) := by decide +kernel
theorem dJ7_copyOf_1904c_1 : decode cJ7_copyOf_1904c 1 = .ok (.iload_n 1, 1) := by decide +kernel
theorem dJ7_copyOf_1904c_2 : decode cJ7_copyOf_1904c 2 = .ok (.aload_n 0, 1) := by decide +kernel
theorem dJ7_copyOf_1904c_3 : decode cJ7_copyOf_1904c 3 = .ok (.invokevirtual 86, 3) := by decide +kernel
theorem dJ7_copyOf_1904c_6 : decode cJ7_copyOf_1904c 6 = .ok (.invokestatic 300, 3) := by decide +kernel
theorem dJ7_copyOf_1904c_9 : decode cJ7_copyOf_1904c 9 = .ok (.areturn, 1) := by decide +kernel
theorem dJ7_copyOf_6403c_0 : decode cJ7_copyOf_6403c 0 = .ok (.aload_n 2, 1) := by decide +kernel
theorem dJ7_copyOf_6403c_1 : decode cJ7_copyOf_6403c 1 = .ok (.ldc 110, 2) := by decide +kernel
theorem dJ7_copyOf_6403c_3 : decode cJ7_copyOf_6403c 3 = .ok (.if_acmp .ne 10, 3) := by decide +kernel
theorem dJ7_copyOf_6403c_6 : decode cJ7_copyOf_6403c 6 = .ok (.iload_n 1, 1) := by decide +kernel
theorem dJ7_copyOf_6403c_7 : decode cJ7_copyOf_6403c 7 = .ok (.anewarray 2, 3) := by decide +kernel
theorem dJ7_copyOf_6403c_10 : decode cJ7_copyOf_6403c 10 = .ok (.goto 14, 3) := by decide +kernel
theorem dJ7_copyOf_6403c_13 : decode cJ7_copyOf_6403c 13 = .ok (.aload_n 2, 1) := by decide +kernel
theorem dJ7_copyOf_6403c_14 : decode cJ7_copyOf_6403c 14 = .ok (.invokevirtual 90, 3) := by decide +kernel
theorem dJ7_copyOf_6403c_17 : decode cJ7_copyOf_6403c 17 = .ok (.iload_n 1, 1) := by decide +kernel
theorem dJ7_copyOf_6403c_18 : decode cJ7_copyOf_6403c 18 = .ok (.invokestatic 95, 3) := by decide +kernel
theorem dJ7_copyOf_6403c_21 : decode cJ7_copyOf_6403c 21 = .ok (.checkcast 110, 3) := by decide +kernel
theorem dJ7_copyOf_6403c_24 : decode cJ7_copyOf_6403c 24 = .ok (.astore_n 3, 1) := by decide +kernel
theorem dJ7_copyOf_6403c_25 : decode cJ7_copyOf_6403c 25 = .ok (.aload_n 0, 1) := by decide +kernel
theorem dJ7_copyOf_6403c_26 : decode cJ7_copyOf_6403c 26 = .ok (.iconst 0, 1) := by decide +kernel
theorem dJ7_copyOf_6403c_27 : decode cJ7_copyOf_6403c 27 = .ok (.aload_n 3, 1) := by decide +kernel
theorem dJ7_copyOf_6403c_28 : decode cJ7_copyOf_6403c 28 = .ok (.iconst 0, 1) := by decide +kernel
theorem dJ7_copyOf_6403c_29 : decode cJ7_copyOf_6403c 29 = .ok (.aload_n 0, 1) := by decide +kernel
theorem dJ7_copyOf_6403c_30 : decode cJ7_copyOf_6403c 30 = .ok (.arraylength, 1) := by decide +kernel
theorem dJ7_copyOf_6403c_31 : decode cJ7_copyOf_6403c 31 = .ok (.iload_n 1, 1) := by decide +kernel
theorem dJ7_copyOf_6403c_32 : decode cJ7_copyOf_6403c 32 = .ok (.invokestatic 304, 3) := by decide +kernel
theorem dJ7_copyOf_6403c_35 : decode cJ7_copyOf_6403c 35 = .ok (.invokestatic 150, 3) := by decide +kernel
theorem dJ7_copyOf_6403c_38 : decode cJ7_copyOf_6403c 38 = .ok (.aload_n 3, 1) := by decide +kernel
theorem dJ7_copyOf_6403c_39 : decode cJ7_copyOf_6403c 39 = .ok (.areturn, 1) := by decide +kernel
theorem dJ7_copyOf_9075b_0 : decode cJ7_copyOf_9075b 0 = .ok (.iload_n 1, 1) := by decide +kernel
theorem dJ7_copyOf_9075b_1 : decode cJ7_copyOf_9075b 1 = .ok (.aload_n 0, 1) := by decide +kernel
theorem dJ7_copyOf_9075b_2 : decode cJ7_copyOf_9075b 2 = .ok (.arraylength, 1) := by decide +kernel
theorem dJ7_copyOf_9075b_3 : decode cJ7_copyOf_9075b 3 = .ok (.if_icmp .ne 11, 3) := by decide +kernel
theorem dJ7_copyOf_9075b_6 : decode cJ7_copyOf_9075b 6 = .ok (.aload_n 0, 1) := by decide +kernel
theorem dJ7_copyOf_9075b_7 : decode cJ7_copyOf_9075b 7 = .ok (.invokevirtual 310, 3) := by decide +kernel
theorem dJ7_copyOf_9075b_10 : decode cJ7_copyOf_9075b 10 = .ok (.checkcast 311, 3) := by decide +kernel
theorem dJ7_copyOf_9075b_13 : decode cJ7_copyOf_9075b 13 = .ok (.areturn, 1) := by decide +kernel
theorem dJ7_copyOf_9075b_14 : decode cJ7_copyOf_9075b 14 = .ok (.iload_n 1, 1) := by decide +kernel
theorem dJ7_copyOf_9075b_15 : decode cJ7_copyOf_9075b 15 = .ok (.newarray .byte, 2) := by decide +kernel
theorem dJ7_copyOf_9075b_17 : decode cJ7_copyOf_9075b 17 = .ok (.astore_n 2, 1) := by decide +kernel
theorem dJ7_copyOf_9075b_18 : decode cJ7_copyOf_9075b 18 = .ok (.aload_n 0, 1) := by decide +kernel
theorem dJ7_copyOf_9075b_19 : decode cJ7_copyOf_9075b 19 = .ok (.iconst 0, 1) := by decide +kernel
theorem dJ7_copyOf_9075b_20 : decode cJ7_copyOf_9075b 20 = .ok (.aload_n 2, 1) := by decide +kernel
theorem dJ7_copyOf_9075b_21 : decode cJ7_copyOf_9075b 21 = .ok (.iconst 0, 1) := by decide +kernel
theorem dJ7_copyOf_9075b_22 : decode cJ7_copyOf_9075b 22 = .ok (.aload_n 0, 1) := by decide +kernel
theorem dJ7_copyOf_9075b_23 : decode cJ7_copyOf_9075b 23 = .ok (.arraylength, 1) := by decide +kernel
theorem dJ7_copyOf_9075b_24 : decode cJ7_copyOf_9075b 24 = .ok (.iload_n 1, 1) := by decide +kernel
theorem dJ7_copyOf_9075b_25 : decode cJ7_copyOf_9075b 25 = .ok (.invokestatic 304, 3) := by decide +kernel
theorem dJ7_copyOf_9075b_28 : decode cJ7_copyOf_9075b 28 = .ok (.invokestatic 150, 3) := by decide +kernel
theorem dJ7_copyOf_9075b_31 : decode cJ7_copyOf_9075b 31 = .ok (.aload_n 2, 1) := by decide +kernel
theorem dJ7_copyOf_9075b_32 : decode cJ7_copyOf_9075b 32 = .ok (.areturn, 1) := by decide +kernel
theorem dJ15_checkIndex_7cf53_0 : decode cJ15_checkIndex_7cf53 0 = .ok (.iload_n 0, 1) := by decide +kernel
theorem dJ15_checkIndex_7cf53_1 : decode cJ15_checkIndex_7cf53 1 = .ok (.iload_n 1, 1) := by decide +kernel
theorem dJ15_checkIndex_7cf53_2 : decode cJ15_checkIndex_7cf53 2 = .ok (.aconst_null, 1) := by decide +kernel
theorem dJ15_checkIndex_7cf53_3 : decode cJ15_checkIndex_7cf53 3 = .ok (.invokestatic 105, 3) := by decide +kernel
theorem dJ15_checkIndex_7cf53_6 : decode cJ15_checkIndex_7cf53 6 = .ok (.ireturn, 1) := by decide +kernel
theorem dJ8_newLength_cabcc_0 : decode cJ8_newLength_cabcc 0 = .ok (.iload_n 0, 1) := by decide +kernel
theorem dJ8_newLength_cabcc_1 : decode cJ8_newLength_cabcc 1 = .ok (.iload_n 1, 1) := by decide +kernel
theorem dJ8_newLength_cabcc_2 : decode cJ8_newLength_cabcc 2 = .ok (.iload_n 2, 1) := by decide +kernel
theorem dJ8_newLength_cabcc_3 : decode cJ8_newLength_cabcc 3 = .ok (.invokestatic 194, 3) := by decide +kernel
theorem dJ8_newLength_cabcc_6 : decode cJ8_newLength_cabcc 6 = .ok (.iadd, 1) := by decide +kernel
theorem dJ8_newLength_cabcc_7 : decode cJ8_newLength_cabcc 7 = .ok (.istore_n 3, 1) := by decide +kernel
theorem dJ8_newLength_cabcc_8 : decode cJ8_newLength_cabcc 8 = .ok (.iconst 0, 1) := by decide +kernel
theorem dJ8_newLength_cabcc_9 : decode cJ8_newLength_cabcc 9 = .ok (.iload_n 3, 1) := by decide +kernel
theorem dJ8_newLength_cabcc_10 : decode cJ8_newLength_cabcc 10 = .ok (.if_icmp .ge 11, 3) := by decide +kernel
theorem dJ8_newLength_cabcc_13 : decode cJ8_newLength_cabcc 13 = .ok (.iload_n 3, 1) := by decide +kernel
theorem dJ8_newLength_cabcc_14 : decode cJ8_newLength_cabcc 14 = .ok (.ldc 200, 2) := by decide +kernel
theorem dJ8_newLength_cabcc_16 : decode cJ8_newLength_cabcc 16 = .ok (.if_icmp .gt 5, 3) := by decide +kernel
theorem dJ8_newLength_cabcc_19 : decode cJ8_newLength_cabcc 19 = .ok (.iload_n 3, 1) := by decide +kernel
theorem dJ8_newLength_cabcc_20 : decode cJ8_newLength_cabcc 20 = .ok (.ireturn, 1) := by decide +kernel
theorem dJ8_newLength_cabcc_21 : decode cJ8_newLength_cabcc 21 = .ok (.iload_n 0, 1) := by decide +kernel
theorem dJ8_newLength_cabcc_22 : decode cJ8_newLength_cabcc 22 = .ok (.iload_n 1, 1) := by decide +kernel
theorem dJ8_newLength_cabcc_23 : decode cJ8_newLength_cabcc 23 = .ok (.invokestatic 201, 3) := by decide +kernel
theorem dJ8_newLength_cabcc_26 : decode cJ8_newLength_cabcc 26 = .ok (.ireturn, 1) := by decide +kernel
theorem dJ3_checkIndex_8e157_0 : decode cJ3_checkIndex_8e157 0 = .ok (.iload_n 0, 1) := by decide +kernel
theorem dJ3_checkIndex_8e157_1 : decode cJ3_checkIndex_8e157 1 = .ok (.ifCond .lt 8, 3) := by decide +kernel
theorem dJ3_checkIndex_8e157_4 : decode cJ3_checkIndex_8e157 4 = .ok (.iload_n 0, 1) := by decide +kernel
theorem dJ3_checkIndex_8e157_5 : decode cJ3_checkIndex_8e157 5 = .ok (.iload_n 1, 1) := by decide +kernel
theorem dJ3_checkIndex_8e157_6 : decode cJ3_checkIndex_8e157 6 = .ok (.if_icmp .lt 10, 3) := by decide +kernel
theorem dJ3_checkIndex_8e157_9 : decode cJ3_checkIndex_8e157 9 = .ok (.aload_n 2, 1) := by decide +kernel
theorem dJ3_checkIndex_8e157_10 : decode cJ3_checkIndex_8e157 10 = .ok (.iload_n 0, 1) := by decide +kernel
theorem dJ3_checkIndex_8e157_11 : decode cJ3_checkIndex_8e157 11 = .ok (.iload_n 1, 1) := by decide +kernel
theorem dJ3_checkIndex_8e157_12 : decode cJ3_checkIndex_8e157 12 = .ok (.invokestatic 95, 3) := by decide +kernel
theorem dJ3_checkIndex_8e157_15 : decode cJ3_checkIndex_8e157 15 = .ok (.athrow, 1) := by decide +kernel
theorem dJ3_checkIndex_8e157_16 : decode cJ3_checkIndex_8e157 16 = .ok (.iload_n 0, 1) := by decide +kernel
theorem dJ3_checkIndex_8e157_17 : decode cJ3_checkIndex_8e157 17 = .ok (.ireturn, 1) := by decide +kernel
theorem dL_feed_0 : decode cL_feed 0 = .ok (.aload 4, 2) := by decide +kernel
theorem dL_feed_2 : decode cL_feed 2 = .ok (.iconst 0, 1) := by decide +kernel
theorem dL_feed_3 : decode cL_feed 3 = .ok (.aload_n 0, 1) := by decide +kernel
theorem dL_feed_4 : decode cL_feed 4 = .ok (.iload_n 1, 1) := by decide +kernel
theorem dL_feed_5 : decode cL_feed 5 = .ok (.lload_n 2, 1) := by decide +kernel
theorem dL_feed_6 : decode cL_feed 6 = .ok (.invokevirtual 7, 3) := by decide +kernel
theorem dL_feed_9 : decode cL_feed 9 = .ok (.i2l, 1) := by decide +kernel
theorem dL_feed_10 : decode cL_feed 10 = .ok (.lastore, 1) := by decide +kernel
theorem dL_feed_11 : decode cL_feed 11 = .ok (.goto 7, 3) := by decide +kernel
theorem dL_feed_14 : decode cL_feed 14 = .ok (.astore 5, 2) := by decide +kernel
theorem dL_feed_16 : decode cL_feed 16 = .ok (.iconst 1, 1) := by decide +kernel
theorem dL_feed_17 : decode cL_feed 17 = .ok (.ireturn, 1) := by decide +kernel
theorem dL_feed_18 : decode cL_feed 18 = .ok (.iconst 0, 1) := by decide +kernel
theorem dL_feed_19 : decode cL_feed 19 = .ok (.ireturn, 1) := by decide +kernel
theorem dL_put_0 : decode cL_put 0 = .ok (.aload_n 2, 1) := by decide +kernel
theorem dL_put_1 : decode cL_put 1 = .ok (.iconst 0, 1) := by decide +kernel
theorem dL_put_2 : decode cL_put 2 = .ok (.aload_n 0, 1) := by decide +kernel
theorem dL_put_3 : decode cL_put 3 = .ok (.iload_n 1, 1) := by decide +kernel
theorem dL_put_4 : decode cL_put 4 = .ok (.invokevirtual 15, 3) := by decide +kernel
theorem dL_put_7 : decode cL_put 7 = .ok (.i2l, 1) := by decide +kernel
theorem dL_put_8 : decode cL_put 8 = .ok (.lastore, 1) := by decide +kernel
theorem dL_put_9 : decode cL_put 9 = .ok (.goto 6, 3) := by decide +kernel
theorem dL_put_12 : decode cL_put 12 = .ok (.astore_n 3, 1) := by decide +kernel
theorem dL_put_13 : decode cL_put 13 = .ok (.iconst 1, 1) := by decide +kernel
theorem dL_put_14 : decode cL_put 14 = .ok (.ireturn, 1) := by decide +kernel
theorem dL_put_15 : decode cL_put 15 = .ok (.iconst 0, 1) := by decide +kernel
theorem dL_put_16 : decode cL_put 16 = .ok (.ireturn, 1) := by decide +kernel
theorem dL_drop_0 : decode cL_drop 0 = .ok (.aload_n 2, 1) := by decide +kernel
theorem dL_drop_1 : decode cL_drop 1 = .ok (.iconst 0, 1) := by decide +kernel
theorem dL_drop_2 : decode cL_drop 2 = .ok (.aload_n 0, 1) := by decide +kernel
theorem dL_drop_3 : decode cL_drop 3 = .ok (.iload_n 1, 1) := by decide +kernel
theorem dL_drop_4 : decode cL_drop 4 = .ok (.invokevirtual 19, 3) := by decide +kernel
theorem dL_drop_7 : decode cL_drop 7 = .ok (.ifCond .eq 7, 3) := by decide +kernel
theorem dL_drop_10 : decode cL_drop 10 = .ok (.lconst 1, 1) := by decide +kernel
theorem dL_drop_11 : decode cL_drop 11 = .ok (.goto 4, 3) := by decide +kernel
theorem dL_drop_14 : decode cL_drop 14 = .ok (.lconst 0, 1) := by decide +kernel
theorem dL_drop_15 : decode cL_drop 15 = .ok (.lastore, 1) := by decide +kernel
theorem dL_drop_16 : decode cL_drop 16 = .ok (.goto 6, 3) := by decide +kernel
theorem dL_drop_19 : decode cL_drop 19 = .ok (.astore_n 3, 1) := by decide +kernel
theorem dL_drop_20 : decode cL_drop 20 = .ok (.iconst 1, 1) := by decide +kernel
theorem dL_drop_21 : decode cL_drop 21 = .ok (.ireturn, 1) := by decide +kernel
theorem dL_drop_22 : decode cL_drop 22 = .ok (.iconst 0, 1) := by decide +kernel
theorem dL_drop_23 : decode cL_drop 23 = .ok (.ireturn, 1) := by decide +kernel
theorem dL_told_0 : decode cL_told 0 = .ok (.aload_n 2, 1) := by decide +kernel
theorem dL_told_1 : decode cL_told 1 = .ok (.iconst 0, 1) := by decide +kernel
theorem dL_told_2 : decode cL_told 2 = .ok (.aload_n 0, 1) := by decide +kernel
theorem dL_told_3 : decode cL_told 3 = .ok (.iload_n 1, 1) := by decide +kernel
theorem dL_told_4 : decode cL_told 4 = .ok (.invokevirtual 23, 3) := by decide +kernel
theorem dL_told_7 : decode cL_told 7 = .ok (.i2l, 1) := by decide +kernel
theorem dL_told_8 : decode cL_told 8 = .ok (.lastore, 1) := by decide +kernel
theorem dL_told_9 : decode cL_told 9 = .ok (.goto 6, 3) := by decide +kernel
theorem dL_told_12 : decode cL_told 12 = .ok (.astore_n 3, 1) := by decide +kernel
theorem dL_told_13 : decode cL_told 13 = .ok (.iconst 1, 1) := by decide +kernel
theorem dL_told_14 : decode cL_told 14 = .ok (.ireturn, 1) := by decide +kernel
theorem dL_told_15 : decode cL_told 15 = .ok (.iconst 0, 1) := by decide +kernel
theorem dL_told_16 : decode cL_told 16 = .ok (.ireturn, 1) := by decide +kernel
theorem dL_about_0 : decode cL_about 0 = .ok (.aload_n 2, 1) := by decide +kernel
theorem dL_about_1 : decode cL_about 1 = .ok (.iconst 0, 1) := by decide +kernel
theorem dL_about_2 : decode cL_about 2 = .ok (.aload_n 0, 1) := by decide +kernel
theorem dL_about_3 : decode cL_about 3 = .ok (.iload_n 1, 1) := by decide +kernel
theorem dL_about_4 : decode cL_about 4 = .ok (.invokevirtual 26, 3) := by decide +kernel
theorem dL_about_7 : decode cL_about 7 = .ok (.i2l, 1) := by decide +kernel
theorem dL_about_8 : decode cL_about 8 = .ok (.lastore, 1) := by decide +kernel
theorem dL_about_9 : decode cL_about 9 = .ok (.goto 6, 3) := by decide +kernel
theorem dL_about_12 : decode cL_about 12 = .ok (.astore_n 3, 1) := by decide +kernel
theorem dL_about_13 : decode cL_about 13 = .ok (.iconst 1, 1) := by decide +kernel
theorem dL_about_14 : decode cL_about 14 = .ok (.ireturn, 1) := by decide +kernel
theorem dL_about_15 : decode cL_about 15 = .ok (.iconst 0, 1) := by decide +kernel
theorem dL_about_16 : decode cL_about 16 = .ok (.ireturn, 1) := by decide +kernel
theorem dL_find_0 : decode cL_find 0 = .ok (.aload_n 2, 1) := by decide +kernel
theorem dL_find_1 : decode cL_find 1 = .ok (.iconst 0, 1) := by decide +kernel
theorem dL_find_2 : decode cL_find 2 = .ok (.aload_n 0, 1) := by decide +kernel
theorem dL_find_3 : decode cL_find 3 = .ok (.iload_n 1, 1) := by decide +kernel
theorem dL_find_4 : decode cL_find 4 = .ok (.invokevirtual 29, 3) := by decide +kernel
theorem dL_find_7 : decode cL_find 7 = .ok (.i2l, 1) := by decide +kernel
theorem dL_find_8 : decode cL_find 8 = .ok (.lastore, 1) := by decide +kernel
theorem dL_find_9 : decode cL_find 9 = .ok (.goto 6, 3) := by decide +kernel
theorem dL_find_12 : decode cL_find 12 = .ok (.astore_n 3, 1) := by decide +kernel
theorem dL_find_13 : decode cL_find 13 = .ok (.iconst 1, 1) := by decide +kernel
theorem dL_find_14 : decode cL_find 14 = .ok (.ireturn, 1) := by decide +kernel
theorem dL_find_15 : decode cL_find 15 = .ok (.iconst 0, 1) := by decide +kernel
theorem dL_find_16 : decode cL_find 16 = .ok (.ireturn, 1) := by decide +kernel
theorem dL_similar_0 : decode cL_similar 0 = .ok (.aload_n 3, 1) := by decide +kernel
theorem dL_similar_1 : decode cL_similar 1 = .ok (.iconst 0, 1) := by decide +kernel
theorem dL_similar_2 : decode cL_similar 2 = .ok (.aload_n 0, 1) := by decide +kernel
theorem dL_similar_3 : decode cL_similar 3 = .ok (.iload_n 1, 1) := by decide +kernel
theorem dL_similar_4 : decode cL_similar 4 = .ok (.iload_n 2, 1) := by decide +kernel
theorem dL_similar_5 : decode cL_similar 5 = .ok (.invokevirtual 32, 3) := by decide +kernel
theorem dL_similar_8 : decode cL_similar 8 = .ok (.i2l, 1) := by decide +kernel
theorem dL_similar_9 : decode cL_similar 9 = .ok (.lastore, 1) := by decide +kernel
theorem dL_similar_10 : decode cL_similar 10 = .ok (.goto 7, 3) := by decide +kernel
theorem dL_similar_13 : decode cL_similar 13 = .ok (.astore 4, 2) := by decide +kernel
theorem dL_similar_15 : decode cL_similar 15 = .ok (.iconst 1, 1) := by decide +kernel
theorem dL_similar_16 : decode cL_similar 16 = .ok (.ireturn, 1) := by decide +kernel
theorem dL_similar_17 : decode cL_similar 17 = .ok (.iconst 0, 1) := by decide +kernel
theorem dL_similar_18 : decode cL_similar 18 = .ok (.ireturn, 1) := by decide +kernel
theorem dL_hit_0 : decode cL_hit 0 = .ok (.aload_n 2, 1) := by decide +kernel
theorem dL_hit_1 : decode cL_hit 1 = .ok (.iconst 0, 1) := by decide +kernel
theorem dL_hit_2 : decode cL_hit 2 = .ok (.aload_n 0, 1) := by decide +kernel
theorem dL_hit_3 : decode cL_hit 3 = .ok (.iload_n 1, 1) := by decide +kernel
theorem dL_hit_4 : decode cL_hit 4 = .ok (.invokevirtual 36, 3) := by decide +kernel
theorem dL_hit_7 : decode cL_hit 7 = .ok (.i2l, 1) := by decide +kernel
theorem dL_hit_8 : decode cL_hit 8 = .ok (.lastore, 1) := by decide +kernel
theorem dL_hit_9 : decode cL_hit 9 = .ok (.goto 6, 3) := by decide +kernel
theorem dL_hit_12 : decode cL_hit 12 = .ok (.astore_n 3, 1) := by decide +kernel
theorem dL_hit_13 : decode cL_hit 13 = .ok (.iconst 1, 1) := by decide +kernel
theorem dL_hit_14 : decode cL_hit 14 = .ok (.ireturn, 1) := by decide +kernel
theorem dL_hit_15 : decode cL_hit 15 = .ok (.iconst 0, 1) := by decide +kernel
theorem dL_hit_16 : decode cL_hit 16 = .ok (.ireturn, 1) := by decide +kernel
theorem dL_score_0 : decode cL_score 0 = .ok (.aload_n 2, 1) := by decide +kernel
theorem dL_score_1 : decode cL_score 1 = .ok (.iconst 0, 1) := by decide +kernel
theorem dL_score_2 : decode cL_score 2 = .ok (.aload_n 0, 1) := by decide +kernel
theorem dL_score_3 : decode cL_score 3 = .ok (.iload_n 1, 1) := by decide +kernel
theorem dL_score_4 : decode cL_score 4 = .ok (.invokevirtual 41, 3) := by decide +kernel
theorem dL_score_7 : decode cL_score 7 = .ok (.i2l, 1) := by decide +kernel
theorem dL_score_8 : decode cL_score 8 = .ok (.lastore, 1) := by decide +kernel
theorem dL_score_9 : decode cL_score 9 = .ok (.goto 6, 3) := by decide +kernel
theorem dL_score_12 : decode cL_score 12 = .ok (.astore_n 3, 1) := by decide +kernel
theorem dL_score_13 : decode cL_score 13 = .ok (.iconst 1, 1) := by decide +kernel
theorem dL_score_14 : decode cL_score 14 = .ok (.ireturn, 1) := by decide +kernel
theorem dL_score_15 : decode cL_score 15 = .ok (.iconst 0, 1) := by decide +kernel
theorem dL_score_16 : decode cL_score 16 = .ok (.ireturn, 1) := by decide +kernel
theorem dL_law_0 : decode cL_law 0 = .ok (.new 8, 3) := by decide +kernel
theorem dL_law_3 : decode cL_law 3 = .ok (.dup, 1) := by decide +kernel
theorem dL_law_4 : decode cL_law 4 = .ok (.invokespecial 44, 3) := by decide +kernel
theorem dL_law_7 : decode cL_law 7 = .ok (.astore_n 1, 1) := by decide +kernel
theorem dL_law_8 : decode cL_law 8 = .ok (.new 45, 3) := by decide +kernel
theorem dL_law_11 : decode cL_law 11 = .ok (.dup, 1) := by decide +kernel
theorem dL_law_12 : decode cL_law 12 = .ok (.invokespecial 47, 3) := by decide +kernel
theorem dL_law_15 : decode cL_law 15 = .ok (.astore_n 2, 1) := by decide +kernel
theorem dL_law_16 : decode cL_law 16 = .ok (.iconst 1, 1) := by decide +kernel
theorem dL_law_17 : decode cL_law 17 = .ok (.newarray .long, 2) := by decide +kernel
theorem dL_law_19 : decode cL_law 19 = .ok (.astore_n 3, 1) := by decide +kernel
theorem dL_law_20 : decode cL_law 20 = .ok (.iconst 0, 1) := by decide +kernel
theorem dL_law_21 : decode cL_law 21 = .ok (.istore 4, 2) := by decide +kernel
theorem dL_law_23 : decode cL_law 23 = .ok (.iload 4, 2) := by decide +kernel
theorem dL_law_25 : decode cL_law 25 = .ok (.aload_n 0, 1) := by decide +kernel
theorem dL_law_26 : decode cL_law 26 = .ok (.arraylength, 1) := by decide +kernel
theorem dL_law_27 : decode cL_law 27 = .ok (.iconst 4, 1) := by decide +kernel
theorem dL_law_28 : decode cL_law 28 = .ok (.isub, 1) := by decide +kernel
theorem dL_law_29 : decode cL_law 29 = .ok (.if_icmp .gt 713, 3) := by decide +kernel
theorem dL_law_32 : decode cL_law 32 = .ok (.aload_n 0, 1) := by decide +kernel
theorem dL_law_33 : decode cL_law 33 = .ok (.iload 4, 2) := by decide +kernel
theorem dL_law_35 : decode cL_law 35 = .ok (.iaload, 1) := by decide +kernel
theorem dL_law_36 : decode cL_law 36 = .ok (.bipush 15, 2) := by decide +kernel
theorem dL_law_38 : decode cL_law 38 = .ok (.iand, 1) := by decide +kernel
theorem dL_law_39 : decode cL_law 39 = .ok (.tableswitch 697 0 12 #[65, 165, 178, 234, 297, 353, 379, 435, 491, 504, 517, 585, 641], 65) := by decide +kernel
theorem dL_law_104 : decode cL_law 104 = .ok (.aload_n 1, 1) := by decide +kernel
theorem dL_law_105 : decode cL_law 105 = .ok (.aload_n 0, 1) := by decide +kernel
theorem dL_law_106 : decode cL_law 106 = .ok (.iload 4, 2) := by decide +kernel
theorem dL_law_108 : decode cL_law 108 = .ok (.iconst 1, 1) := by decide +kernel
theorem dL_law_109 : decode cL_law 109 = .ok (.iadd, 1) := by decide +kernel
theorem dL_law_110 : decode cL_law 110 = .ok (.iaload, 1) := by decide +kernel
theorem dL_law_111 : decode cL_law 111 = .ok (.aload_n 0, 1) := by decide +kernel
theorem dL_law_112 : decode cL_law 112 = .ok (.iload 4, 2) := by decide +kernel
theorem dL_law_114 : decode cL_law 114 = .ok (.iconst 2, 1) := by decide +kernel
theorem dL_law_115 : decode cL_law 115 = .ok (.iadd, 1) := by decide +kernel
theorem dL_law_116 : decode cL_law 116 = .ok (.iaload, 1) := by decide +kernel
theorem dL_law_117 : decode cL_law 117 = .ok (.i2l, 1) := by decide +kernel
theorem dL_law_118 : decode cL_law 118 = .ok (.bipush 32, 2) := by decide +kernel
theorem dL_law_120 : decode cL_law 120 = .ok (.lshl, 1) := by decide +kernel
theorem dL_law_121 : decode cL_law 121 = .ok (.aload_n 0, 1) := by decide +kernel
theorem dL_law_122 : decode cL_law 122 = .ok (.iload 4, 2) := by decide +kernel
theorem dL_law_124 : decode cL_law 124 = .ok (.iconst 3, 1) := by decide +kernel
theorem dL_law_125 : decode cL_law 125 = .ok (.iadd, 1) := by decide +kernel
theorem dL_law_126 : decode cL_law 126 = .ok (.iaload, 1) := by decide +kernel
theorem dL_law_127 : decode cL_law 127 = .ok (.i2l, 1) := by decide +kernel
theorem dL_law_128 : decode cL_law 128 = .ok (.ldc2_w 48, 3) := by decide +kernel
theorem dL_law_131 : decode cL_law 131 = .ok (.land, 1) := by decide +kernel
theorem dL_law_132 : decode cL_law 132 = .ok (.lor, 1) := by decide +kernel
theorem dL_law_133 : decode cL_law 133 = .ok (.aload_n 3, 1) := by decide +kernel
theorem dL_law_134 : decode cL_law 134 = .ok (.invokestatic 50, 3) := by decide +kernel
theorem dL_law_137 : decode cL_law 137 = .ok (.istore 5, 2) := by decide +kernel
theorem dL_law_139 : decode cL_law 139 = .ok (.aload_n 2, 1) := by decide +kernel
theorem dL_law_140 : decode cL_law 140 = .ok (.aload_n 0, 1) := by decide +kernel
theorem dL_law_141 : decode cL_law 141 = .ok (.iload 4, 2) := by decide +kernel
theorem dL_law_143 : decode cL_law 143 = .ok (.iconst 1, 1) := by decide +kernel
theorem dL_law_144 : decode cL_law 144 = .ok (.iadd, 1) := by decide +kernel
theorem dL_law_145 : decode cL_law 145 = .ok (.iaload, 1) := by decide +kernel
theorem dL_law_146 : decode cL_law 146 = .ok (.aload_n 0, 1) := by decide +kernel
theorem dL_law_147 : decode cL_law 147 = .ok (.iload 4, 2) := by decide +kernel
theorem dL_law_149 : decode cL_law 149 = .ok (.iconst 2, 1) := by decide +kernel
theorem dL_law_150 : decode cL_law 150 = .ok (.iadd, 1) := by decide +kernel
theorem dL_law_151 : decode cL_law 151 = .ok (.iaload, 1) := by decide +kernel
theorem dL_law_152 : decode cL_law 152 = .ok (.i2l, 1) := by decide +kernel
theorem dL_law_153 : decode cL_law 153 = .ok (.bipush 32, 2) := by decide +kernel
theorem dL_law_155 : decode cL_law 155 = .ok (.lshl, 1) := by decide +kernel
theorem dL_law_156 : decode cL_law 156 = .ok (.aload_n 0, 1) := by decide +kernel
theorem dL_law_157 : decode cL_law 157 = .ok (.iload 4, 2) := by decide +kernel
theorem dL_law_159 : decode cL_law 159 = .ok (.iconst 3, 1) := by decide +kernel
theorem dL_law_160 : decode cL_law 160 = .ok (.iadd, 1) := by decide +kernel
theorem dL_law_161 : decode cL_law 161 = .ok (.iaload, 1) := by decide +kernel
theorem dL_law_162 : decode cL_law 162 = .ok (.i2l, 1) := by decide +kernel
theorem dL_law_163 : decode cL_law 163 = .ok (.ldc2_w 48, 3) := by decide +kernel
theorem dL_law_166 : decode cL_law 166 = .ok (.land, 1) := by decide +kernel
theorem dL_law_167 : decode cL_law 167 = .ok (.lor, 1) := by decide +kernel
theorem dL_law_168 : decode cL_law 168 = .ok (.invokevirtual 55, 3) := by decide +kernel
theorem dL_law_171 : decode cL_law 171 = .ok (.istore 6, 2) := by decide +kernel
theorem dL_law_173 : decode cL_law 173 = .ok (.aload_n 2, 1) := by decide +kernel
theorem dL_law_174 : decode cL_law 174 = .ok (.invokevirtual 56, 3) := by decide +kernel
theorem dL_law_177 : decode cL_law 177 = .ok (.iload 5, 2) := by decide +kernel
theorem dL_law_179 : decode cL_law 179 = .ok (.if_icmp .eq 5, 3) := by decide +kernel
theorem dL_law_182 : decode cL_law 182 = .ok (.iconst 0, 1) := by decide +kernel
theorem dL_law_183 : decode cL_law 183 = .ok (.ireturn, 1) := by decide +kernel
theorem dL_law_184 : decode cL_law 184 = .ok (.iload 5, 2) := by decide +kernel
theorem dL_law_186 : decode cL_law 186 = .ok (.ifCond .ne 15, 3) := by decide +kernel
theorem dL_law_189 : decode cL_law 189 = .ok (.aload_n 3, 1) := by decide +kernel
theorem dL_law_190 : decode cL_law 190 = .ok (.iconst 0, 1) := by decide +kernel
theorem dL_law_191 : decode cL_law 191 = .ok (.laload, 1) := by decide +kernel
theorem dL_law_192 : decode cL_law 192 = .ok (.iload 6, 2) := by decide +kernel
theorem dL_law_194 : decode cL_law 194 = .ok (.i2l, 1) := by decide +kernel
theorem dL_law_195 : decode cL_law 195 = .ok (.lcmp, 1) := by decide +kernel
theorem dL_law_196 : decode cL_law 196 = .ok (.ifCond .eq 5, 3) := by decide +kernel
theorem dL_law_199 : decode cL_law 199 = .ok (.iconst 0, 1) := by decide +kernel
theorem dL_law_200 : decode cL_law 200 = .ok (.ireturn, 1) := by decide +kernel
theorem dL_law_201 : decode cL_law 201 = .ok (.goto 535, 3) := by decide +kernel
theorem dL_law_204 : decode cL_law 204 = .ok (.aload_n 1, 1) := by decide +kernel
theorem dL_law_205 : decode cL_law 205 = .ok (.invokevirtual 60, 3) := by decide +kernel
theorem dL_law_208 : decode cL_law 208 = .ok (.aload_n 2, 1) := by decide +kernel
theorem dL_law_209 : decode cL_law 209 = .ok (.invokevirtual 63, 3) := by decide +kernel
theorem dL_law_212 : decode cL_law 212 = .ok (.if_icmp .eq 524, 3) := by decide +kernel
theorem dL_law_215 : decode cL_law 215 = .ok (.iconst 0, 1) := by decide +kernel
theorem dL_law_216 : decode cL_law 216 = .ok (.ireturn, 1) := by decide +kernel
theorem dL_law_217 : decode cL_law 217 = .ok (.aload_n 1, 1) := by decide +kernel
theorem dL_law_218 : decode cL_law 218 = .ok (.aload_n 0, 1) := by decide +kernel
theorem dL_law_219 : decode cL_law 219 = .ok (.iload 4, 2) := by decide +kernel
theorem dL_law_221 : decode cL_law 221 = .ok (.iconst 1, 1) := by decide +kernel
theorem dL_law_222 : decode cL_law 222 = .ok (.iadd, 1) := by decide +kernel
theorem dL_law_223 : decode cL_law 223 = .ok (.iaload, 1) := by decide +kernel
theorem dL_law_224 : decode cL_law 224 = .ok (.aload_n 3, 1) := by decide +kernel
theorem dL_law_225 : decode cL_law 225 = .ok (.invokestatic 64, 3) := by decide +kernel
theorem dL_law_228 : decode cL_law 228 = .ok (.istore 5, 2) := by decide +kernel
theorem dL_law_230 : decode cL_law 230 = .ok (.aload_n 2, 1) := by decide +kernel
theorem dL_law_231 : decode cL_law 231 = .ok (.aload_n 0, 1) := by decide +kernel
theorem dL_law_232 : decode cL_law 232 = .ok (.iload 4, 2) := by decide +kernel
theorem dL_law_234 : decode cL_law 234 = .ok (.iconst 1, 1) := by decide +kernel
theorem dL_law_235 : decode cL_law 235 = .ok (.iadd, 1) := by decide +kernel
theorem dL_law_236 : decode cL_law 236 = .ok (.iaload, 1) := by decide +kernel
theorem dL_law_237 : decode cL_law 237 = .ok (.invokevirtual 67, 3) := by decide +kernel
theorem dL_law_240 : decode cL_law 240 = .ok (.istore 6, 2) := by decide +kernel
theorem dL_law_242 : decode cL_law 242 = .ok (.aload_n 2, 1) := by decide +kernel
theorem dL_law_243 : decode cL_law 243 = .ok (.invokevirtual 56, 3) := by decide +kernel
theorem dL_law_246 : decode cL_law 246 = .ok (.iload 5, 2) := by decide +kernel
theorem dL_law_248 : decode cL_law 248 = .ok (.if_icmp .eq 5, 3) := by decide +kernel
theorem dL_law_251 : decode cL_law 251 = .ok (.iconst 0, 1) := by decide +kernel
theorem dL_law_252 : decode cL_law 252 = .ok (.ireturn, 1) := by decide +kernel
theorem dL_law_253 : decode cL_law 253 = .ok (.iload 5, 2) := by decide +kernel
theorem dL_law_255 : decode cL_law 255 = .ok (.ifCond .ne 15, 3) := by decide +kernel
theorem dL_law_258 : decode cL_law 258 = .ok (.aload_n 3, 1) := by decide +kernel
theorem dL_law_259 : decode cL_law 259 = .ok (.iconst 0, 1) := by decide +kernel
theorem dL_law_260 : decode cL_law 260 = .ok (.laload, 1) := by decide +kernel
theorem dL_law_261 : decode cL_law 261 = .ok (.iload 6, 2) := by decide +kernel
theorem dL_law_263 : decode cL_law 263 = .ok (.i2l, 1) := by decide +kernel
theorem dL_law_264 : decode cL_law 264 = .ok (.lcmp, 1) := by decide +kernel
theorem dL_law_265 : decode cL_law 265 = .ok (.ifCond .eq 5, 3) := by decide +kernel
theorem dL_law_268 : decode cL_law 268 = .ok (.iconst 0, 1) := by decide +kernel
theorem dL_law_269 : decode cL_law 269 = .ok (.ireturn, 1) := by decide +kernel
theorem dL_law_270 : decode cL_law 270 = .ok (.goto 466, 3) := by decide +kernel
theorem dL_law_273 : decode cL_law 273 = .ok (.aload_n 1, 1) := by decide +kernel
theorem dL_law_274 : decode cL_law 274 = .ok (.aload_n 0, 1) := by decide +kernel
theorem dL_law_275 : decode cL_law 275 = .ok (.iload 4, 2) := by decide +kernel
theorem dL_law_277 : decode cL_law 277 = .ok (.iconst 1, 1) := by decide +kernel
theorem dL_law_278 : decode cL_law 278 = .ok (.iadd, 1) := by decide +kernel
theorem dL_law_279 : decode cL_law 279 = .ok (.iaload, 1) := by decide +kernel
theorem dL_law_280 : decode cL_law 280 = .ok (.aload_n 3, 1) := by decide +kernel
theorem dL_law_281 : decode cL_law 281 = .ok (.invokestatic 68, 3) := by decide +kernel
theorem dL_law_284 : decode cL_law 284 = .ok (.istore 5, 2) := by decide +kernel
theorem dL_law_286 : decode cL_law 286 = .ok (.aload_n 2, 1) := by decide +kernel
theorem dL_law_287 : decode cL_law 287 = .ok (.aload_n 0, 1) := by decide +kernel
theorem dL_law_288 : decode cL_law 288 = .ok (.iload 4, 2) := by decide +kernel
theorem dL_law_290 : decode cL_law 290 = .ok (.iconst 1, 1) := by decide +kernel
theorem dL_law_291 : decode cL_law 291 = .ok (.iadd, 1) := by decide +kernel
theorem dL_law_292 : decode cL_law 292 = .ok (.iaload, 1) := by decide +kernel
theorem dL_law_293 : decode cL_law 293 = .ok (.invokevirtual 70, 3) := by decide +kernel
theorem dL_law_296 : decode cL_law 296 = .ok (.istore 6, 2) := by decide +kernel
theorem dL_law_298 : decode cL_law 298 = .ok (.aload_n 2, 1) := by decide +kernel
theorem dL_law_299 : decode cL_law 299 = .ok (.invokevirtual 56, 3) := by decide +kernel
theorem dL_law_302 : decode cL_law 302 = .ok (.iload 5, 2) := by decide +kernel
theorem dL_law_304 : decode cL_law 304 = .ok (.if_icmp .eq 5, 3) := by decide +kernel
theorem dL_law_307 : decode cL_law 307 = .ok (.iconst 0, 1) := by decide +kernel
theorem dL_law_308 : decode cL_law 308 = .ok (.ireturn, 1) := by decide +kernel
theorem dL_law_309 : decode cL_law 309 = .ok (.iload 5, 2) := by decide +kernel
theorem dL_law_311 : decode cL_law 311 = .ok (.ifCond .ne 22, 3) := by decide +kernel
theorem dL_law_314 : decode cL_law 314 = .ok (.aload_n 3, 1) := by decide +kernel
theorem dL_law_315 : decode cL_law 315 = .ok (.iconst 0, 1) := by decide +kernel
theorem dL_law_316 : decode cL_law 316 = .ok (.laload, 1) := by decide +kernel
theorem dL_law_317 : decode cL_law 317 = .ok (.iload 6, 2) := by decide +kernel
theorem dL_law_319 : decode cL_law 319 = .ok (.ifCond .eq 7, 3) := by decide +kernel
theorem dL_law_322 : decode cL_law 322 = .ok (.lconst 1, 1) := by decide +kernel
theorem dL_law_323 : decode cL_law 323 = .ok (.goto 4, 3) := by decide +kernel
theorem dL_law_326 : decode cL_law 326 = .ok (.lconst 0, 1) := by decide +kernel
theorem dL_law_327 : decode cL_law 327 = .ok (.lcmp, 1) := by decide +kernel
theorem dL_law_328 : decode cL_law 328 = .ok (.ifCond .eq 5, 3) := by decide +kernel
theorem dL_law_331 : decode cL_law 331 = .ok (.iconst 0, 1) := by decide +kernel
theorem dL_law_332 : decode cL_law 332 = .ok (.ireturn, 1) := by decide +kernel
theorem dL_law_333 : decode cL_law 333 = .ok (.goto 403, 3) := by decide +kernel
theorem dL_law_336 : decode cL_law 336 = .ok (.aload_n 1, 1) := by decide +kernel
theorem dL_law_337 : decode cL_law 337 = .ok (.aload_n 0, 1) := by decide +kernel
theorem dL_law_338 : decode cL_law 338 = .ok (.iload 4, 2) := by decide +kernel
theorem dL_law_340 : decode cL_law 340 = .ok (.iconst 1, 1) := by decide +kernel
theorem dL_law_341 : decode cL_law 341 = .ok (.iadd, 1) := by decide +kernel
theorem dL_law_342 : decode cL_law 342 = .ok (.iaload, 1) := by decide +kernel
theorem dL_law_343 : decode cL_law 343 = .ok (.aload_n 3, 1) := by decide +kernel
theorem dL_law_344 : decode cL_law 344 = .ok (.invokestatic 71, 3) := by decide +kernel
theorem dL_law_347 : decode cL_law 347 = .ok (.istore 5, 2) := by decide +kernel
theorem dL_law_349 : decode cL_law 349 = .ok (.aload_n 2, 1) := by decide +kernel
theorem dL_law_350 : decode cL_law 350 = .ok (.aload_n 0, 1) := by decide +kernel
theorem dL_law_351 : decode cL_law 351 = .ok (.iload 4, 2) := by decide +kernel
theorem dL_law_353 : decode cL_law 353 = .ok (.iconst 1, 1) := by decide +kernel
theorem dL_law_354 : decode cL_law 354 = .ok (.iadd, 1) := by decide +kernel
theorem dL_law_355 : decode cL_law 355 = .ok (.iaload, 1) := by decide +kernel
theorem dL_law_356 : decode cL_law 356 = .ok (.invokevirtual 73, 3) := by decide +kernel
theorem dL_law_359 : decode cL_law 359 = .ok (.istore 6, 2) := by decide +kernel
theorem dL_law_361 : decode cL_law 361 = .ok (.aload_n 2, 1) := by decide +kernel
theorem dL_law_362 : decode cL_law 362 = .ok (.invokevirtual 56, 3) := by decide +kernel
theorem dL_law_365 : decode cL_law 365 = .ok (.iload 5, 2) := by decide +kernel
theorem dL_law_367 : decode cL_law 367 = .ok (.if_icmp .eq 5, 3) := by decide +kernel
theorem dL_law_370 : decode cL_law 370 = .ok (.iconst 0, 1) := by decide +kernel
theorem dL_law_371 : decode cL_law 371 = .ok (.ireturn, 1) := by decide +kernel
theorem dL_law_372 : decode cL_law 372 = .ok (.iload 5, 2) := by decide +kernel
theorem dL_law_374 : decode cL_law 374 = .ok (.ifCond .ne 15, 3) := by decide +kernel
theorem dL_law_377 : decode cL_law 377 = .ok (.aload_n 3, 1) := by decide +kernel
theorem dL_law_378 : decode cL_law 378 = .ok (.iconst 0, 1) := by decide +kernel
theorem dL_law_379 : decode cL_law 379 = .ok (.laload, 1) := by decide +kernel
theorem dL_law_380 : decode cL_law 380 = .ok (.iload 6, 2) := by decide +kernel
theorem dL_law_382 : decode cL_law 382 = .ok (.i2l, 1) := by decide +kernel
theorem dL_law_383 : decode cL_law 383 = .ok (.lcmp, 1) := by decide +kernel
theorem dL_law_384 : decode cL_law 384 = .ok (.ifCond .eq 5, 3) := by decide +kernel
theorem dL_law_387 : decode cL_law 387 = .ok (.iconst 0, 1) := by decide +kernel
theorem dL_law_388 : decode cL_law 388 = .ok (.ireturn, 1) := by decide +kernel
theorem dL_law_389 : decode cL_law 389 = .ok (.goto 347, 3) := by decide +kernel
theorem dL_law_392 : decode cL_law 392 = .ok (.aload_n 1, 1) := by decide +kernel
theorem dL_law_393 : decode cL_law 393 = .ok (.aload_n 0, 1) := by decide +kernel
theorem dL_law_394 : decode cL_law 394 = .ok (.iload 4, 2) := by decide +kernel
theorem dL_law_396 : decode cL_law 396 = .ok (.iconst 1, 1) := by decide +kernel
theorem dL_law_397 : decode cL_law 397 = .ok (.iadd, 1) := by decide +kernel
theorem dL_law_398 : decode cL_law 398 = .ok (.iaload, 1) := by decide +kernel
theorem dL_law_399 : decode cL_law 399 = .ok (.invokevirtual 74, 3) := by decide +kernel
theorem dL_law_402 : decode cL_law 402 = .ok (.aload_n 2, 1) := by decide +kernel
theorem dL_law_403 : decode cL_law 403 = .ok (.aload_n 0, 1) := by decide +kernel
theorem dL_law_404 : decode cL_law 404 = .ok (.iload 4, 2) := by decide +kernel
theorem dL_law_406 : decode cL_law 406 = .ok (.iconst 1, 1) := by decide +kernel
theorem dL_law_407 : decode cL_law 407 = .ok (.iadd, 1) := by decide +kernel
theorem dL_law_408 : decode cL_law 408 = .ok (.iaload, 1) := by decide +kernel
theorem dL_law_409 : decode cL_law 409 = .ok (.invokevirtual 78, 3) := by decide +kernel
theorem dL_law_412 : decode cL_law 412 = .ok (.lcmp, 1) := by decide +kernel
theorem dL_law_413 : decode cL_law 413 = .ok (.ifCond .eq 323, 3) := by decide +kernel
theorem dL_law_416 : decode cL_law 416 = .ok (.iconst 0, 1) := by decide +kernel
theorem dL_law_417 : decode cL_law 417 = .ok (.ireturn, 1) := by decide +kernel
theorem dL_law_418 : decode cL_law 418 = .ok (.aload_n 1, 1) := by decide +kernel
theorem dL_law_419 : decode cL_law 419 = .ok (.aload_n 0, 1) := by decide +kernel
theorem dL_law_420 : decode cL_law 420 = .ok (.iload 4, 2) := by decide +kernel
theorem dL_law_422 : decode cL_law 422 = .ok (.iconst 1, 1) := by decide +kernel
theorem dL_law_423 : decode cL_law 423 = .ok (.iadd, 1) := by decide +kernel
theorem dL_law_424 : decode cL_law 424 = .ok (.iaload, 1) := by decide +kernel
theorem dL_law_425 : decode cL_law 425 = .ok (.aload_n 3, 1) := by decide +kernel
theorem dL_law_426 : decode cL_law 426 = .ok (.invokestatic 79, 3) := by decide +kernel
theorem dL_law_429 : decode cL_law 429 = .ok (.istore 5, 2) := by decide +kernel
theorem dL_law_431 : decode cL_law 431 = .ok (.aload_n 2, 1) := by decide +kernel
theorem dL_law_432 : decode cL_law 432 = .ok (.aload_n 0, 1) := by decide +kernel
theorem dL_law_433 : decode cL_law 433 = .ok (.iload 4, 2) := by decide +kernel
theorem dL_law_435 : decode cL_law 435 = .ok (.iconst 1, 1) := by decide +kernel
theorem dL_law_436 : decode cL_law 436 = .ok (.iadd, 1) := by decide +kernel
theorem dL_law_437 : decode cL_law 437 = .ok (.iaload, 1) := by decide +kernel
theorem dL_law_438 : decode cL_law 438 = .ok (.invokevirtual 81, 3) := by decide +kernel
theorem dL_law_441 : decode cL_law 441 = .ok (.istore 6, 2) := by decide +kernel
theorem dL_law_443 : decode cL_law 443 = .ok (.aload_n 2, 1) := by decide +kernel
theorem dL_law_444 : decode cL_law 444 = .ok (.invokevirtual 56, 3) := by decide +kernel
theorem dL_law_447 : decode cL_law 447 = .ok (.iload 5, 2) := by decide +kernel
theorem dL_law_449 : decode cL_law 449 = .ok (.if_icmp .eq 5, 3) := by decide +kernel
theorem dL_law_452 : decode cL_law 452 = .ok (.iconst 0, 1) := by decide +kernel
theorem dL_law_453 : decode cL_law 453 = .ok (.ireturn, 1) := by decide +kernel
theorem dL_law_454 : decode cL_law 454 = .ok (.iload 5, 2) := by decide +kernel
theorem dL_law_456 : decode cL_law 456 = .ok (.ifCond .ne 15, 3) := by decide +kernel
theorem dL_law_459 : decode cL_law 459 = .ok (.aload_n 3, 1) := by decide +kernel
theorem dL_law_460 : decode cL_law 460 = .ok (.iconst 0, 1) := by decide +kernel
theorem dL_law_461 : decode cL_law 461 = .ok (.laload, 1) := by decide +kernel
theorem dL_law_462 : decode cL_law 462 = .ok (.iload 6, 2) := by decide +kernel
theorem dL_law_464 : decode cL_law 464 = .ok (.i2l, 1) := by decide +kernel
theorem dL_law_465 : decode cL_law 465 = .ok (.lcmp, 1) := by decide +kernel
theorem dL_law_466 : decode cL_law 466 = .ok (.ifCond .eq 5, 3) := by decide +kernel
theorem dL_law_469 : decode cL_law 469 = .ok (.iconst 0, 1) := by decide +kernel
theorem dL_law_470 : decode cL_law 470 = .ok (.ireturn, 1) := by decide +kernel
theorem dL_law_471 : decode cL_law 471 = .ok (.goto 265, 3) := by decide +kernel
theorem dL_law_474 : decode cL_law 474 = .ok (.aload_n 1, 1) := by decide +kernel
theorem dL_law_475 : decode cL_law 475 = .ok (.aload_n 0, 1) := by decide +kernel
theorem dL_law_476 : decode cL_law 476 = .ok (.iload 4, 2) := by decide +kernel
theorem dL_law_478 : decode cL_law 478 = .ok (.iconst 1, 1) := by decide +kernel
theorem dL_law_479 : decode cL_law 479 = .ok (.iadd, 1) := by decide +kernel
theorem dL_law_480 : decode cL_law 480 = .ok (.iaload, 1) := by decide +kernel
theorem dL_law_481 : decode cL_law 481 = .ok (.aload_n 3, 1) := by decide +kernel
theorem dL_law_482 : decode cL_law 482 = .ok (.invokestatic 82, 3) := by decide +kernel
theorem dL_law_485 : decode cL_law 485 = .ok (.istore 5, 2) := by decide +kernel
theorem dL_law_487 : decode cL_law 487 = .ok (.aload_n 2, 1) := by decide +kernel
theorem dL_law_488 : decode cL_law 488 = .ok (.aload_n 0, 1) := by decide +kernel
theorem dL_law_489 : decode cL_law 489 = .ok (.iload 4, 2) := by decide +kernel
theorem dL_law_491 : decode cL_law 491 = .ok (.iconst 1, 1) := by decide +kernel
theorem dL_law_492 : decode cL_law 492 = .ok (.iadd, 1) := by decide +kernel
theorem dL_law_493 : decode cL_law 493 = .ok (.iaload, 1) := by decide +kernel
theorem dL_law_494 : decode cL_law 494 = .ok (.invokevirtual 84, 3) := by decide +kernel
theorem dL_law_497 : decode cL_law 497 = .ok (.istore 6, 2) := by decide +kernel
theorem dL_law_499 : decode cL_law 499 = .ok (.aload_n 2, 1) := by decide +kernel
theorem dL_law_500 : decode cL_law 500 = .ok (.invokevirtual 56, 3) := by decide +kernel
theorem dL_law_503 : decode cL_law 503 = .ok (.iload 5, 2) := by decide +kernel
theorem dL_law_505 : decode cL_law 505 = .ok (.if_icmp .eq 5, 3) := by decide +kernel
theorem dL_law_508 : decode cL_law 508 = .ok (.iconst 0, 1) := by decide +kernel
theorem dL_law_509 : decode cL_law 509 = .ok (.ireturn, 1) := by decide +kernel
theorem dL_law_510 : decode cL_law 510 = .ok (.iload 5, 2) := by decide +kernel
theorem dL_law_512 : decode cL_law 512 = .ok (.ifCond .ne 15, 3) := by decide +kernel
theorem dL_law_515 : decode cL_law 515 = .ok (.aload_n 3, 1) := by decide +kernel
theorem dL_law_516 : decode cL_law 516 = .ok (.iconst 0, 1) := by decide +kernel
theorem dL_law_517 : decode cL_law 517 = .ok (.laload, 1) := by decide +kernel
theorem dL_law_518 : decode cL_law 518 = .ok (.iload 6, 2) := by decide +kernel
theorem dL_law_520 : decode cL_law 520 = .ok (.i2l, 1) := by decide +kernel
theorem dL_law_521 : decode cL_law 521 = .ok (.lcmp, 1) := by decide +kernel
theorem dL_law_522 : decode cL_law 522 = .ok (.ifCond .eq 5, 3) := by decide +kernel
theorem dL_law_525 : decode cL_law 525 = .ok (.iconst 0, 1) := by decide +kernel
theorem dL_law_526 : decode cL_law 526 = .ok (.ireturn, 1) := by decide +kernel
theorem dL_law_527 : decode cL_law 527 = .ok (.goto 209, 3) := by decide +kernel
theorem dL_law_530 : decode cL_law 530 = .ok (.aload_n 1, 1) := by decide +kernel
theorem dL_law_531 : decode cL_law 531 = .ok (.invokevirtual 85, 3) := by decide +kernel
theorem dL_law_534 : decode cL_law 534 = .ok (.aload_n 2, 1) := by decide +kernel
theorem dL_law_535 : decode cL_law 535 = .ok (.invokevirtual 88, 3) := by decide +kernel
theorem dL_law_538 : decode cL_law 538 = .ok (.if_icmp .eq 198, 3) := by decide +kernel
theorem dL_law_541 : decode cL_law 541 = .ok (.iconst 0, 1) := by decide +kernel
theorem dL_law_542 : decode cL_law 542 = .ok (.ireturn, 1) := by decide +kernel
theorem dL_law_543 : decode cL_law 543 = .ok (.aload_n 1, 1) := by decide +kernel
theorem dL_law_544 : decode cL_law 544 = .ok (.invokevirtual 89, 3) := by decide +kernel
theorem dL_law_547 : decode cL_law 547 = .ok (.aload_n 2, 1) := by decide +kernel
theorem dL_law_548 : decode cL_law 548 = .ok (.invokevirtual 92, 3) := by decide +kernel
theorem dL_law_551 : decode cL_law 551 = .ok (.if_icmp .eq 185, 3) := by decide +kernel
theorem dL_law_554 : decode cL_law 554 = .ok (.iconst 0, 1) := by decide +kernel
theorem dL_law_555 : decode cL_law 555 = .ok (.ireturn, 1) := by decide +kernel
theorem dL_law_556 : decode cL_law 556 = .ok (.aload_n 1, 1) := by decide +kernel
theorem dL_law_557 : decode cL_law 557 = .ok (.aload_n 0, 1) := by decide +kernel
theorem dL_law_558 : decode cL_law 558 = .ok (.iload 4, 2) := by decide +kernel
theorem dL_law_560 : decode cL_law 560 = .ok (.iconst 1, 1) := by decide +kernel
theorem dL_law_561 : decode cL_law 561 = .ok (.iadd, 1) := by decide +kernel
theorem dL_law_562 : decode cL_law 562 = .ok (.iaload, 1) := by decide +kernel
theorem dL_law_563 : decode cL_law 563 = .ok (.aload_n 0, 1) := by decide +kernel
theorem dL_law_564 : decode cL_law 564 = .ok (.iload 4, 2) := by decide +kernel
theorem dL_law_566 : decode cL_law 566 = .ok (.iconst 2, 1) := by decide +kernel
theorem dL_law_567 : decode cL_law 567 = .ok (.iadd, 1) := by decide +kernel
theorem dL_law_568 : decode cL_law 568 = .ok (.iaload, 1) := by decide +kernel
theorem dL_law_569 : decode cL_law 569 = .ok (.aload_n 3, 1) := by decide +kernel
theorem dL_law_570 : decode cL_law 570 = .ok (.invokestatic 93, 3) := by decide +kernel
theorem dL_law_573 : decode cL_law 573 = .ok (.istore 5, 2) := by decide +kernel
theorem dL_law_575 : decode cL_law 575 = .ok (.aload_n 2, 1) := by decide +kernel
theorem dL_law_576 : decode cL_law 576 = .ok (.aload_n 0, 1) := by decide +kernel
theorem dL_law_577 : decode cL_law 577 = .ok (.iload 4, 2) := by decide +kernel
theorem dL_law_579 : decode cL_law 579 = .ok (.iconst 1, 1) := by decide +kernel
theorem dL_law_580 : decode cL_law 580 = .ok (.iadd, 1) := by decide +kernel
theorem dL_law_581 : decode cL_law 581 = .ok (.iaload, 1) := by decide +kernel
theorem dL_law_582 : decode cL_law 582 = .ok (.aload_n 0, 1) := by decide +kernel
theorem dL_law_583 : decode cL_law 583 = .ok (.iload 4, 2) := by decide +kernel
theorem dL_law_585 : decode cL_law 585 = .ok (.iconst 2, 1) := by decide +kernel
theorem dL_law_586 : decode cL_law 586 = .ok (.iadd, 1) := by decide +kernel
theorem dL_law_587 : decode cL_law 587 = .ok (.iaload, 1) := by decide +kernel
theorem dL_law_588 : decode cL_law 588 = .ok (.invokevirtual 96, 3) := by decide +kernel
theorem dL_law_591 : decode cL_law 591 = .ok (.istore 6, 2) := by decide +kernel
theorem dL_law_593 : decode cL_law 593 = .ok (.aload_n 2, 1) := by decide +kernel
theorem dL_law_594 : decode cL_law 594 = .ok (.invokevirtual 56, 3) := by decide +kernel
theorem dL_law_597 : decode cL_law 597 = .ok (.iload 5, 2) := by decide +kernel
theorem dL_law_599 : decode cL_law 599 = .ok (.if_icmp .eq 5, 3) := by decide +kernel
theorem dL_law_602 : decode cL_law 602 = .ok (.iconst 0, 1) := by decide +kernel
theorem dL_law_603 : decode cL_law 603 = .ok (.ireturn, 1) := by decide +kernel
theorem dL_law_604 : decode cL_law 604 = .ok (.iload 5, 2) := by decide +kernel
theorem dL_law_606 : decode cL_law 606 = .ok (.ifCond .ne 15, 3) := by decide +kernel
theorem dL_law_609 : decode cL_law 609 = .ok (.aload_n 3, 1) := by decide +kernel
theorem dL_law_610 : decode cL_law 610 = .ok (.iconst 0, 1) := by decide +kernel
theorem dL_law_611 : decode cL_law 611 = .ok (.laload, 1) := by decide +kernel
theorem dL_law_612 : decode cL_law 612 = .ok (.iload 6, 2) := by decide +kernel
theorem dL_law_614 : decode cL_law 614 = .ok (.i2l, 1) := by decide +kernel
theorem dL_law_615 : decode cL_law 615 = .ok (.lcmp, 1) := by decide +kernel
theorem dL_law_616 : decode cL_law 616 = .ok (.ifCond .eq 5, 3) := by decide +kernel
theorem dL_law_619 : decode cL_law 619 = .ok (.iconst 0, 1) := by decide +kernel
theorem dL_law_620 : decode cL_law 620 = .ok (.ireturn, 1) := by decide +kernel
theorem dL_law_621 : decode cL_law 621 = .ok (.goto 115, 3) := by decide +kernel
theorem dL_law_624 : decode cL_law 624 = .ok (.aload_n 1, 1) := by decide +kernel
theorem dL_law_625 : decode cL_law 625 = .ok (.aload_n 0, 1) := by decide +kernel
theorem dL_law_626 : decode cL_law 626 = .ok (.iload 4, 2) := by decide +kernel
theorem dL_law_628 : decode cL_law 628 = .ok (.iconst 1, 1) := by decide +kernel
theorem dL_law_629 : decode cL_law 629 = .ok (.iadd, 1) := by decide +kernel
theorem dL_law_630 : decode cL_law 630 = .ok (.iaload, 1) := by decide +kernel
theorem dL_law_631 : decode cL_law 631 = .ok (.aload_n 3, 1) := by decide +kernel
theorem dL_law_632 : decode cL_law 632 = .ok (.invokestatic 97, 3) := by decide +kernel
theorem dL_law_635 : decode cL_law 635 = .ok (.istore 5, 2) := by decide +kernel
theorem dL_law_637 : decode cL_law 637 = .ok (.aload_n 2, 1) := by decide +kernel
theorem dL_law_638 : decode cL_law 638 = .ok (.aload_n 0, 1) := by decide +kernel
theorem dL_law_639 : decode cL_law 639 = .ok (.iload 4, 2) := by decide +kernel
theorem dL_law_641 : decode cL_law 641 = .ok (.iconst 1, 1) := by decide +kernel
theorem dL_law_642 : decode cL_law 642 = .ok (.iadd, 1) := by decide +kernel
theorem dL_law_643 : decode cL_law 643 = .ok (.iaload, 1) := by decide +kernel
theorem dL_law_644 : decode cL_law 644 = .ok (.invokevirtual 99, 3) := by decide +kernel
theorem dL_law_647 : decode cL_law 647 = .ok (.istore 6, 2) := by decide +kernel
theorem dL_law_649 : decode cL_law 649 = .ok (.aload_n 2, 1) := by decide +kernel
theorem dL_law_650 : decode cL_law 650 = .ok (.invokevirtual 56, 3) := by decide +kernel
theorem dL_law_653 : decode cL_law 653 = .ok (.iload 5, 2) := by decide +kernel
theorem dL_law_655 : decode cL_law 655 = .ok (.if_icmp .eq 5, 3) := by decide +kernel
theorem dL_law_658 : decode cL_law 658 = .ok (.iconst 0, 1) := by decide +kernel
theorem dL_law_659 : decode cL_law 659 = .ok (.ireturn, 1) := by decide +kernel
theorem dL_law_660 : decode cL_law 660 = .ok (.iload 5, 2) := by decide +kernel
theorem dL_law_662 : decode cL_law 662 = .ok (.ifCond .ne 15, 3) := by decide +kernel
theorem dL_law_665 : decode cL_law 665 = .ok (.aload_n 3, 1) := by decide +kernel
theorem dL_law_666 : decode cL_law 666 = .ok (.iconst 0, 1) := by decide +kernel
theorem dL_law_667 : decode cL_law 667 = .ok (.laload, 1) := by decide +kernel
theorem dL_law_668 : decode cL_law 668 = .ok (.iload 6, 2) := by decide +kernel
theorem dL_law_670 : decode cL_law 670 = .ok (.i2l, 1) := by decide +kernel
theorem dL_law_671 : decode cL_law 671 = .ok (.lcmp, 1) := by decide +kernel
theorem dL_law_672 : decode cL_law 672 = .ok (.ifCond .eq 5, 3) := by decide +kernel
theorem dL_law_675 : decode cL_law 675 = .ok (.iconst 0, 1) := by decide +kernel
theorem dL_law_676 : decode cL_law 676 = .ok (.ireturn, 1) := by decide +kernel
theorem dL_law_677 : decode cL_law 677 = .ok (.goto 59, 3) := by decide +kernel
theorem dL_law_680 : decode cL_law 680 = .ok (.aload_n 1, 1) := by decide +kernel
theorem dL_law_681 : decode cL_law 681 = .ok (.aload_n 0, 1) := by decide +kernel
theorem dL_law_682 : decode cL_law 682 = .ok (.iload 4, 2) := by decide +kernel
theorem dL_law_684 : decode cL_law 684 = .ok (.iconst 1, 1) := by decide +kernel
theorem dL_law_685 : decode cL_law 685 = .ok (.iadd, 1) := by decide +kernel
theorem dL_law_686 : decode cL_law 686 = .ok (.iaload, 1) := by decide +kernel
theorem dL_law_687 : decode cL_law 687 = .ok (.aload_n 3, 1) := by decide +kernel
theorem dL_law_688 : decode cL_law 688 = .ok (.invokestatic 100, 3) := by decide +kernel
theorem dL_law_691 : decode cL_law 691 = .ok (.istore 5, 2) := by decide +kernel
theorem dL_law_693 : decode cL_law 693 = .ok (.aload_n 2, 1) := by decide +kernel
theorem dL_law_694 : decode cL_law 694 = .ok (.aload_n 0, 1) := by decide +kernel
theorem dL_law_695 : decode cL_law 695 = .ok (.iload 4, 2) := by decide +kernel
theorem dL_law_697 : decode cL_law 697 = .ok (.iconst 1, 1) := by decide +kernel
theorem dL_law_698 : decode cL_law 698 = .ok (.iadd, 1) := by decide +kernel
theorem dL_law_699 : decode cL_law 699 = .ok (.iaload, 1) := by decide +kernel
theorem dL_law_700 : decode cL_law 700 = .ok (.invokevirtual 102, 3) := by decide +kernel
theorem dL_law_703 : decode cL_law 703 = .ok (.istore 6, 2) := by decide +kernel
theorem dL_law_705 : decode cL_law 705 = .ok (.aload_n 2, 1) := by decide +kernel
theorem dL_law_706 : decode cL_law 706 = .ok (.invokevirtual 56, 3) := by decide +kernel
theorem dL_law_709 : decode cL_law 709 = .ok (.iload 5, 2) := by decide +kernel
theorem dL_law_711 : decode cL_law 711 = .ok (.if_icmp .eq 5, 3) := by decide +kernel
theorem dL_law_714 : decode cL_law 714 = .ok (.iconst 0, 1) := by decide +kernel
theorem dL_law_715 : decode cL_law 715 = .ok (.ireturn, 1) := by decide +kernel
theorem dL_law_716 : decode cL_law 716 = .ok (.iload 5, 2) := by decide +kernel
theorem dL_law_718 : decode cL_law 718 = .ok (.ifCond .ne 15, 3) := by decide +kernel
theorem dL_law_721 : decode cL_law 721 = .ok (.aload_n 3, 1) := by decide +kernel
theorem dL_law_722 : decode cL_law 722 = .ok (.iconst 0, 1) := by decide +kernel
theorem dL_law_723 : decode cL_law 723 = .ok (.laload, 1) := by decide +kernel
theorem dL_law_724 : decode cL_law 724 = .ok (.iload 6, 2) := by decide +kernel
theorem dL_law_726 : decode cL_law 726 = .ok (.i2l, 1) := by decide +kernel
theorem dL_law_727 : decode cL_law 727 = .ok (.lcmp, 1) := by decide +kernel
theorem dL_law_728 : decode cL_law 728 = .ok (.ifCond .eq 5, 3) := by decide +kernel
theorem dL_law_731 : decode cL_law 731 = .ok (.iconst 0, 1) := by decide +kernel
theorem dL_law_732 : decode cL_law 732 = .ok (.ireturn, 1) := by decide +kernel
theorem dL_law_733 : decode cL_law 733 = .ok (.goto 3, 3) := by decide +kernel
theorem dL_law_736 : decode cL_law 736 = .ok (.iinc 4 4, 3) := by decide +kernel
theorem dL_law_739 : decode cL_law 739 = .ok (.goto (-716), 3) := by decide +kernel
theorem dL_law_742 : decode cL_law 742 = .ok (.iconst 1, 1) := by decide +kernel
theorem dL_law_743 : decode cL_law 743 = .ok (.ireturn, 1) := by decide +kernel
end
section
/-! THE WORLD AS ONE FUNCTION: an address to what lies there; a judgement J over the kit's W, whose rows speak of that function alone. -/
abbrev jE : Type := (Nat × vp_A) ⊕ (Nat × List Value)
abbrev jH : Type := Nat → Option jE
/-- classes and slots, array classes by kind, the empty list's shared array -/
abbrev jG : Type := va_G × (Nat → ClassId) × Nat × Nat
def jv_cl : List vw_C := [(RX0, TX0, 4), (RX1, TX1, 8), (RX3, TX3, 2), (RX4, TX4, 4), (RX5, TX5, 6), (RX6, TX6, 6), (RX7, TX7, 2), (RX8, TX8, 2), (RX9, TX9, 6), (RX10, TX10, 5), (RX11, TX11, 5), (RX12, TX12, 27), (RJx4a65c, TJx4a65c, 3)]
def jv_aty : Nat → FieldType := fun k => match k with
  | 0 => .int
  | 1 => .byte
  | 2 => .boolean
  | 3 => .long
  | 4 => .object "java/lang/Object"
  | _ => .object "RankedSearch$Term"
def jv_tys (G : jG) : List (ClassId × FieldType) := [(G.2.1 0, .int), (G.2.1 1, .byte), (G.2.1 2, .boolean), (G.2.1 3, .long), (G.2.1 4, .object "java/lang/Object"), (G.2.1 5, .object "RankedSearch$Term")]
def jv_cv (G : jG) : jE → va_E
  | .inl x => .inl (G.2.1 x.1, x.2)
  | .inr o => .inr o
def jv_R (G : jG) (h : jH) (H : Heap) : Prop := ∀ (a : Nat) (x : jE), h a = some x → va_at G.1 jv_cl (a, jv_cv G x) H
def jv_K (G : jG) (U : State) : Prop := va_K G.1 jv_cl (jv_tys G) U
def jv_A (h : jH) (sz : Nat) : Nat → Prop := fun q => h q ≠ none ∨ sz ≤ q
/-- what lies outside: two statics of Throwable, the empty list's array and the static that holds it -/
def jv_X (G : jG) (A : Nat → Prop) (U : State) (H : Heap) : Prop :=
  vx_Zq Bundle.tN "UNASSIGNED_STACK" Bundle.steD A U H ∧ vx_Zq Bundle.tN "SUPPRESSED_SENTINEL" Bundle.listD A U H ∧
  va_Z "java/util/ArrayList" "DEFAULTCAPACITY_EMPTY_ELEMENTDATA" "[Ljava/lang/Object;" (.ref G.2.2.1) A U H ∧ va_T (.object "java/lang/Object") G.2.2.1 0 (fun _ => .null) A U H ∧ va_Mi "[Ljava/lang/Object;" G.2.2.2 U
theorem jv_X.moved {G : jG} {A : Nat → Prop} {u U : State} {H : Heap} (hvm : u.vm.Alike U.vm) (h : jv_X G A u H) : jv_X G A U H := ⟨vx_Zq.moved hvm h.1, vx_Zq.moved hvm h.2.1, va_Z.moved hvm h.2.2.1, va_T.moved hvm h.2.2.2.1, va_Mi.moved hvm h.2.2.2.2⟩
theorem jv_X.kept {G : jG} {A : Nat → Prop} {U : State} {H H1 : Heap} (h : jv_X G A U H) (hq : ∀ a : Nat, a < H.size → ¬ A a → H1[a]? = H[a]?) : jv_X G A U H1 := ⟨vx_Zq.kept h.1 hq, vx_Zq.kept h.2.1 hq, va_Z.kept h.2.2.1 hq, va_T.kept h.2.2.2.1 hq, h.2.2.2.2⟩
theorem jv_X.narrow {G : jG} {A B : Nat → Prop} {U : State} {H : Heap} (h : jv_X G A U H) (hAB : ∀ q, B q → A q) : jv_X G B U H := ⟨vx_Zq.narrow h.1 hAB, vx_Zq.narrow h.2.1 hAB, va_Z.narrow h.2.2.1 hAB, va_T.narrow h.2.2.2.1 hAB, h.2.2.2.2⟩
-- the words, all of them, for every method
def jv_T : List Cond := lw_tbl.filter goodWord
theorem jv_Tm {w : Cond} (h : w ∈ lw_tbl) (hg : goodWord w = true) : w ∈ jv_T := List.mem_filter.mpr ⟨h, hg⟩
theorem jv_Tt {w : Cond} (i : Nat) (h : tables_1[i]? = some w) (hg : goodWord w = true) : w ∈ jv_T := jv_Tm (List.mem_append_right _ (List.mem_of_getElem? h)) hg
theorem jv_Tp {w : Cond} (i : Nat) (h : (k2_sels lw_privs)[i]? = some w) (hg : goodWord w = true) : w ∈ jv_T := jv_Tm (List.mem_append_left _ (List.mem_of_getElem? h)) hg
theorem jv_good {w : Cond} (h : w ∈ jv_T) : (w.onTables && w.keeps) = true ∨ ∃ ty, w = .arrayClass ty := good_of_word (List.mem_filter.mp h).2
-- words that the kit's lists don't take: kept by a warmer machine, kind by kind
def jv_kind : Cond → Bool
  | .fieldLinkNest _ _ _ _ _ _ => true
  | .methodLinkNest _ _ _ _ => true
  | .castable _ _ => true
  | .declares _ => true
  | .arrayOver (.object _) => true
  | _ => false
def jv_NL : List Cond := tables_1.filter jv_kind
def jv_N (U : State) : Prop := ∀ w ∈ jv_NL, va_Nw w U
theorem jv_Nm {w : Cond} (i : Nat) (h : tables_1[i]? = some w) (hg : jv_kind w = true) : w ∈ jv_NL := List.mem_filter.mpr ⟨List.mem_of_getElem? h, hg⟩
theorem jv_N.warm {s U : State} (hW : s.WarmedH U.vm) (h : jv_N s) : jv_N U := by
  intro w hw
  have h1 := h w hw
  have hk := (List.mem_filter.mp hw).2
  cases w with
  | arrayOver ty => cases ty with
    | object C => exact va_AO.moved hW.alike h1
    | _ => exact absurd (show false = true from hk) Bool.false_ne_true
  | fieldLinkNest _ _ _ _ _ _ => exact va_Nw.warmF hW h1
  | methodLinkNest _ _ _ _ => exact va_Nw.warmM hW h1
  | castable _ _ => exact va_Nw.warmC hW h1
  | declares _ => exact va_Nw.warmD hW h1
  | _ => exact absurd (show false = true from hk) Bool.false_ne_true
theorem jv_N.use {s : State} (h : jv_N s) {w : Cond} (hw : w ∈ jv_NL) {args : Array Value} : w.before args s = true := by
  have h1 := h w hw
  have hk := (List.mem_filter.mp hw).2
  cases w with
  | arrayOver ty => cases ty with
    | object C => exact va_AO.use h1
    | _ => exact absurd (show false = true from hk) Bool.false_ne_true
  | fieldLinkNest _ _ _ _ _ _ => exact va_Nw.use rfl h1
  | methodLinkNest _ _ _ _ => exact va_Nw.use rfl h1
  | castable _ _ => exact va_Nw.use rfl h1
  | declares _ => exact va_Nw.use rfl h1
  | _ => exact absurd (show false = true from hk) Bool.false_ne_true
-- locals: a function
def jv_c1 : Option Value → Option Value
  | some (.long _) => none
  | some (.double _) => none
  | x => x
def jv_u1 (lv : Nat → Option Value) (i : Nat) (v : Value) : Nat → Option Value := fun j => bif Nat.beq j i then some v else bif Nat.beq (j + 1) i then jv_c1 (lv j) else lv j
def jv_u2 (lv : Nat → Option Value) (i : Nat) (v : Value) : Nat → Option Value := fun j => bif Nat.beq j i then some v else bif Nat.beq j (i + 1) then none else bif Nat.beq (j + 1) i then jv_c1 (lv j) else lv j
def jv_l : List (Nat × Value) → Nat → Option Value
  | [], _ => none
  | q :: t, i => bif Nat.beq i q.1 then some q.2 else jv_l t i
def jv_has (ls : Array Slot) (nL : Nat) (lv : Nat → Option Value) : Prop := ls.size = nL ∧ lv_wf ls ∧ ∀ (i : Nat) (v : Value), lv i = some v → ls[i]? = some (.val v)
def jv_ok : List (Nat × Value) → (Nat → Option Value) → Prop
  | [], _ => True
  | q :: t, f => f q.1 = some q.2 ∧ jv_ok t f
theorem jv_ok_at : ∀ {L : List (Nat × Value)} {f : Nat → Option Value}, jv_ok L f → ∀ (i : Nat) (v : Value), jv_l L i = some v → f i = some v
  | [], _, _, _, _, h => by cases h
  | q :: t, f, h, i, v, e => by
    unfold jv_l at e
    cases hb : Nat.beq i q.1 with
    | true =>
      rw [hb] at e
      have := Nat.eq_of_beq_eq_true hb
      subst this
      cases e
      exact h.1
    | false =>
      rw [hb] at e
      exact jv_ok_at h.2 i v e
theorem jv_has.sub {ls : Array Slot} {nL : Nat} {lv : Nat → Option Value} (h : jv_has ls nL lv) {L : List (Nat × Value)} (hL : jv_ok L lv) : jv_has ls nL (jv_l L) := ⟨h.1, h.2.1, fun i v e => h.2.2 i v (jv_ok_at hL i v e)⟩
theorem jv_has.lst {ls : Array Slot} {nL : Nat} {lv : Nat → Option Value} (h : jv_has ls nL lv) : lv_has ls nL ((List.range nL).filterMap (fun i => (lv i).map (fun v => (i, v)))) := by
  refine ⟨h.1, h.2.1, fun q hq => ?_⟩
  obtain ⟨i, -, hi⟩ := List.mem_filterMap.mp hq
  cases hv : lv i with
  | none => rw [hv] at hi; cases hi
  | some v => rw [hv] at hi; cases hi; exact h.2.2 i v hv
theorem jv_has.mem {ls : Array Slot} {nL : Nat} {lv : Nat → Option Value} (h : jv_has ls nL lv) {i : Nat} {v : Value} (e : lv i = some v) : (i, v) ∈ (List.range nL).filterMap (fun i => (lv i).map (fun v => (i, v))) := by
  have h1 := h.2.2 i v e
  have h2 : i < nL := by rw [← h.1]; exact lv_lt h1
  exact List.mem_filterMap.mpr ⟨i, List.mem_range.mpr h2, by rw [e]; rfl⟩
theorem jv_c1_some {x : Option Value} {v : Value} (h : jv_c1 x = some v) : x = some v ∧ v.category ≠ 2 := by
  unfold jv_c1 at h
  split at h
  · cases h
  · cases h
  · subst h
    refine ⟨rfl, ?_⟩
    cases v <;> simp_all [Value.category]
theorem jv_has.st1 {ls ls' : Array Slot} {nL i : Nat} {v : Value} {lv : Nat → Option Value} (h : jv_has ls nL lv) (h' : lv_has ls' nL ((i, v) :: ((List.range nL).filterMap (fun i => (lv i).map (fun v => (i, v)))).filter (fun q => !(q.1 == i) && !(q.1 + 1 == i && q.2.category == 2)))) : jv_has ls' nL (jv_u1 lv i v) := by
  refine ⟨h'.1, h'.2.1, fun j w e => ?_⟩
  unfold jv_u1 at e
  cases hb : Nat.beq j i with
  | true =>
    rw [hb] at e
    have := Nat.eq_of_beq_eq_true hb
    subst this
    cases e
    exact h'.2.2 (j, v) List.mem_cons_self
  | false =>
    rw [hb] at e
    have hne : j ≠ i := fun z => by subst z; rw [Nat.beq_refl] at hb; cases hb
    have key : lv j = some w ∧ (j + 1 = i → w.category ≠ 2) := by
      cases hc : Nat.beq (j + 1) i with
      | true =>
        rw [hc] at e
        have e := jv_c1_some e
        exact ⟨e.1, fun _ => e.2⟩
      | false =>
        rw [hc] at e
        exact ⟨e, fun z => by rw [z, Nat.beq_refl] at hc; cases hc⟩
    refine h'.2.2 (j, w) (List.mem_cons_of_mem _ (List.mem_filter.mpr ⟨h.mem key.1, ?_⟩))
    have h2 := key.2
    simp only [Bool.and_eq_true, Bool.not_eq_true', beq_eq_false_iff_ne, ne_eq, Bool.and_eq_false_iff]
    refine ⟨hne, ?_⟩
    by_cases z : j + 1 = i
    · exact Or.inr (h2 z)
    · exact Or.inl z
theorem jv_has.st2 {ls ls' : Array Slot} {nL i : Nat} {v : Value} {lv : Nat → Option Value} (h : jv_has ls nL lv) (h' : lv_has ls' nL ((i, v) :: ((List.range nL).filterMap (fun i => (lv i).map (fun v => (i, v)))).filter (fun q => !(q.1 == i) && (!(q.1 == i + 1) && !(q.1 + 1 == i && q.2.category == 2))))) : jv_has ls' nL (jv_u2 lv i v) := by
  refine ⟨h'.1, h'.2.1, fun j w e => ?_⟩
  unfold jv_u2 at e
  cases hb : Nat.beq j i with
  | true =>
    rw [hb] at e
    have := Nat.eq_of_beq_eq_true hb
    subst this
    cases e
    exact h'.2.2 (j, v) List.mem_cons_self
  | false =>
    rw [hb] at e
    have hne : j ≠ i := fun z => by subst z; rw [Nat.beq_refl] at hb; cases hb
    cases hb2 : Nat.beq j (i + 1) with
    | true => rw [hb2] at e; cases e
    | false =>
      rw [hb2] at e
      have hne2 : j ≠ i + 1 := fun z => by subst z; rw [Nat.beq_refl] at hb2; cases hb2
      have key : lv j = some w ∧ (j + 1 = i → w.category ≠ 2) := by
        cases hc : Nat.beq (j + 1) i with
        | true =>
          rw [hc] at e
          have e := jv_c1_some e
          exact ⟨e.1, fun _ => e.2⟩
        | false =>
          rw [hc] at e
          exact ⟨e, fun z => by rw [z, Nat.beq_refl] at hc; cases hc⟩
      refine h'.2.2 (j, w) (List.mem_cons_of_mem _ (List.mem_filter.mpr ⟨h.mem key.1, ?_⟩))
      have h2 := key.2
      simp only [Bool.and_eq_true, Bool.not_eq_true', beq_eq_false_iff_ne, ne_eq, Bool.and_eq_false_iff]
      refine ⟨hne, hne2, ?_⟩
      by_cases z : j + 1 = i
      · exact Or.inr (h2 z)
      · exact Or.inl z
-- the heap function
def jv_up (h : jH) (a : Nat) (x : jE) : jH := fun q => if q = a then some x else h q
theorem jv_up_at (h : jH) (a : Nat) (x : jE) : jv_up h a x a = some x := if_pos rfl
theorem jv_up_ne {h : jH} {a b : Nat} {x : jE} (e : b ≠ a) : jv_up h a x b = h b := if_neg e
theorem jv_up_of {h : jH} {a b : Nat} {x y : jE} (e : b ≠ a) (hb : h b = some y) : jv_up h a x b = some y := (if_neg e).trans hb
theorem jv_up_up (h : jH) (a : Nat) (x y : jE) : jv_up (jv_up h a x) a y = jv_up h a y := by
  funext q
  unfold jv_up
  by_cases e : q = a
  · rw [if_pos e, if_pos e]
  · rw [if_neg e, if_neg e, if_neg e]
theorem jv_up_id {h : jH} {a : Nat} {x : jE} (e : h a = some x) : jv_up h a x = h := by
  funext q
  unfold jv_up
  by_cases z : q = a
  · rw [if_pos z, z, e]
  · rw [if_neg z]
theorem jv_up_comm {h : jH} {a b : Nat} {x y : jE} (e : a ≠ b) : jv_up (jv_up h a x) b y = jv_up (jv_up h b y) a x := by
  funext q
  unfold jv_up
  by_cases z : q = b
  · rw [if_pos z, if_neg (fun w => e (w.symm.trans z)), if_pos z]
  · rw [if_neg z, if_neg z]
theorem jv_R.one {G : jG} {h : jH} {H : Heap} (hR : jv_R G h H) {a : Nat} {x : jE} (e : h a = some x) : va_P G.1 jv_cl [(a, jv_cv G x)] H := by
  intro k q hk
  have hz : k < 1 := (List.getElem?_eq_some_iff.mp hk).1
  rw [show k = 0 by omega] at hk
  cases hk
  exact hR a x e
theorem jv_R.put {G : jG} {h : jH} {H H1 : Heap} {a : Nat} {x : jE} (hR : jv_R G h H) (he : va_at G.1 jv_cl (a, jv_cv G x) H1) (oq : ∀ q : Nat, q ≠ a → H1[q]? = H[q]?) : jv_R G (jv_up h a x) H1 := by
  intro b y hb
  by_cases z : b = a
  · subst z
    rw [jv_up_at] at hb
    cases hb
    exact he
  · rw [jv_up_ne z] at hb
    exact (hR b y hb).kept (oq b z)
theorem jv_R.grow {G : jG} {h : jH} {H H1 : Heap} {x : jE} (hR : jv_R G h H) (he : va_at G.1 jv_cl (H.size, jv_cv G x) H1) (oq : ∀ q : Nat, q < H.size → H1[q]? = H[q]?) : jv_R G (jv_up h H.size x) H1 := by
  intro b y hb
  by_cases z : b = H.size
  · subst z
    rw [jv_up_at] at hb
    cases hb
    exact he
  · rw [jv_up_ne z] at hb
    exact (hR b y hb).kept (oq b (hR b y hb).lt)
theorem jv_R.fresh {G : jG} {h : jH} {H : Heap} (hR : jv_R G h H) {q : Nat} (hq : H.size ≤ q) : h q = none := by
  cases e : h q with
  | none => rfl
  | some x => exact absurd (hR q x e).lt (Nat.not_lt.mpr hq)
theorem jv_dom {h : jH} {A : Nat → Prop} {a : Nat} {x : jE} (hA : ∀ q, h q ≠ none → A q) (ha : A a) : ∀ q, jv_up h a x q ≠ none → A q := by
  intro q hq
  by_cases z : q = a
  · rw [z]; exact ha
  · rw [jv_up_ne z] at hq; exact hA q hq
-- the judgement
abbrev jT : Type := Program × Launch × Env × Room × State × MethodId × Array Value × List Frame × Method × Code × jG × (Nat → Prop) × (State → Prop)
def J (K : jT) (cells slots pc : Nat) (lv : Nat → Option Value) (st : List Value) (h : jH) : Prop := match K with
  | (p, l, e, R, s, m, args, below, meth, c, G, A, Q) => ∀ (H : Heap) (locs : List Loc) (ls : Array Slot), jv_has ls c.maxLocals lv → jv_R G h H → (∀ q, h q ≠ none → A q) → va_S A s.heap H locs → W p l e R s m args below meth c H locs cells slots Q (F0 m pc ls st)
/-- what is known in a method's body, all along -/
def JC (K : jT) (cc : ByteArray) (nL : Nat) (own : String) (fr mc ms : Nat) : Prop := match K with
  | (p, l, e, R, s, m, args, below, meth, c, G, A, Q) => p.tables.exec = Jvm.exec ∧ c.code = cc ∧ c.maxLocals = nL ∧ s.vm.findClass own = some m.cls ∧ (∀ w ∈ jv_T, w.before args s = true) ∧ jv_K G s ∧ R = ({ frames := fr, cells := mc, slots := ms, locals := 50 * fr } : Room) ∧ jv_X G A s s.heap ∧ (∀ q, s.heap.size ≤ q → A q) ∧ jv_N s ∧ fr ≤ 1600 ∧ l.stackTraces = false
/-- a method's end -/
def JR (K : jT) (ret : Option FieldType) (mc ms : Nat) (h0 : jH) (post : Option Value → jH → Prop) : Prop := match K with
  | (p, l, e, R, s, m, args, below, meth, c, G, A, Q) => meth.locks = false ∧ meth.sig.returnType = ret ∧ (∀ q, jv_A h0 s.heap.size q ↔ A q) ∧ ∀ t, MQ below (fun _ st oc t => (∃ r h1, oc = .returned r ∧ post r h1 ∧ jv_R G h1 t.heap ∧ ∀ q, h1 q ≠ none → A q) ∧ va_F A st t) args s mc ms A t → Q t
/-- the name of the method -/
def JI (K : jT) (nm : String) : Prop := match K with
  | (p, l, e, R, s, m, args, below, meth, c, G, A, Q) => meth.name = nm
/-- the empty list's array, as K has it; the launch beside it -/
abbrev jL : Type := Launch × Nat × Nat
def jv_lk (K : jT) : jL := match K with
  | (p, l, e, R, s, m, args, below, meth, c, G, A, Q) => (l, G.2.2)
def jv_Pc (G : jG) (As : List Value) (h : jH) (sz : Nat) : Array Value → State → Prop := va_Pc As (fun U => U.heap.size = sz ∧ jv_R G h U.heap ∧ jv_K G U ∧ jv_X G (jv_A h sz) U U.heap ∧ jv_N U)
def jv_Qc (G : jG) (h : jH) (sz : Nat) (post : Option Value → jH → Prop) : Array Value → State → Outcome → State → Prop := fun _ st oc t => (∃ r h1, oc = .returned r ∧ post r h1 ∧ jv_R G h1 t.heap ∧ ∀ q, h1 q ≠ none → jv_A h sz q) ∧ va_F (jv_A h sz) st t
/-- THE CONTRACT: called with As over the world h, it returns, and post says what and over which world -/
def Cn (l : jL) (y : MethodName) (cc : ByteArray) (nL : Nat) (ret : Option FieldType) (fr mc ms : Nat) (As : List Value) (h : jH) (post : Option Value → jH → Prop) : Prop :=
  l.1.stackTraces = false → ∀ (G : jG) (sz : Nat), G.2.2 = l.2 → Met l.1 y (Cond.code y cc nL ret :: jv_T) ({ frames := fr, cells := mc, slots := ms, locals := 50 * fr } : Room) (jv_Pc G As h sz) (jv_Qc G h sz post) mc ms (jv_A h sz)
theorem jv_Pc_blind {G : jG} {As : List Value} {h : jH} {sz : Nat} : FrameBlind (jv_Pc G As h sz) := by
  intro a U g mk q
  obtain ⟨q0, q1, q2, q3, q4, q5⟩ := q
  exact ⟨q0, q1, q2, va_K.moved (u := U) (U := U.calling g mk a) (Vm.Alike.refl U.vm) q3, jv_X.moved (u := U) (U := U.calling g mk a) (Vm.Alike.refl U.vm) q4, jv_N.warm (s := U) (U := U.calling g mk a) (State.WarmedH.refl U) q5⟩
theorem jv_args_at : ∀ (L : List (Nat × Value)) (i : Nat) (v : Value), jv_l L i = some v → (i, v) ∈ L
  | [], _, _, h => by cases h
  | q :: t, i, v, e => by
    unfold jv_l at e
    cases hb : Nat.beq i q.1 with
    | true =>
      rw [hb] at e
      have := Nat.eq_of_beq_eq_true hb
      subst this
      cases e
      exact List.mem_cons_self
    | false =>
      rw [hb] at e
      exact List.mem_cons_of_mem _ (jv_args_at t i v e)
/-- a contract, by its body -/
theorem Cn.of {l : jL} {y : MethodName} {cc : ByteArray} {nL : Nat} {ret : Option FieldType} {fr mc ms : Nat} {As : List Value} {h : jH} {post : Option Value → jH → Prop} {own : String} (ho : y.cls = own) (hy : plainName own = true) (hn : (lg_sl As).length ≤ nL) (hfr : fr ≤ 1600)
    (body : ∀ K : jT, jv_lk K = l → JC K cc nL own fr mc ms → JR K ret mc ms h post → JI K y.name → J K 0 0 0 (jv_l (lv_args 0 As)) [] h) : Cn l y cc nL ret fr mc ms As h post := by
  subst ho
  intro hst G sz hG
  refine Met.ofW (cc := cc) (maxL := nL) (ret := ret) hy rfl ?_
  intro p e s m args below meth c s₁ B hml hv
  obtain ⟨rfl, hsz, hR, hK, hX, hN⟩ := hv
  subst hsz
  have hts := atoms_spec (ws := Cond.code y cc nL ret :: jv_T) B.pre
  have hl := lv_entry As (n := nL) hn
  rw [lg_entry_eq]
  generalize (lg_sl As ++ List.replicate (nL - (lg_sl As).length) Slot.unset).toArray = ls at hl ⊢
  have h2 : jv_has ls c.maxLocals (jv_l (lv_args 0 As)) := by
    rw [hml]
    exact ⟨hl.1, hl.2.1, fun i v e => hl.2.2 (i, v) (jv_args_at _ i v e)⟩
  refine body (p, l.1, e, _, s, m, As.toArray, below, meth, c, G, jv_A h s.heap.size, _) (by show (l.1, G.2.2) = l; rw [hG]) ⟨B.exec, B.bytes, hml, findClass_of_methodNamed B.named, fun w hw => hts w (List.mem_cons_of_mem _ hw), hK, rfl, hX, fun q hq => Or.inr hq, hN, hfr, hst⟩ ⟨B.notSynchronized, B.returns, fun q => Iff.rfl, fun t ht => ht⟩ (name_of_methodNamed B.named B.method).1 s.heap [] ls h2 hR (fun q hq => Or.inl hq) va_S.rf
section JROWS
variable {K : jT} {cc : ByteArray} {nL fr mc ms cells slots pc : Nat} {own : String} {lv : Nat → Option Value} {rest : List Value} {h : jH}

theorem J_iadd (C : JC K cc nL own fr mc ms) {x y : Int32} (d : decode cc pc = .ok (.iadd, 1)) (k : J K cells slots (pc + 1) lv (.int (x + y) :: rest) h) : J K cells slots pc lv (.int y :: .int x :: rest) h := by
  obtain ⟨p, l, e, R, s, m, args, below, meth, c, G, A, Q⟩ := K
  intro H locs ls hl hR hA hS
  exact lv_iadd C.1 C.2.1 d (k H locs ls hl hR hA hS)
theorem J_isub (C : JC K cc nL own fr mc ms) {x y : Int32} (d : decode cc pc = .ok (.isub, 1)) (k : J K cells slots (pc + 1) lv (.int (x - y) :: rest) h) : J K cells slots pc lv (.int y :: .int x :: rest) h := by
  obtain ⟨p, l, e, R, s, m, args, below, meth, c, G, A, Q⟩ := K
  intro H locs ls hl hR hA hS
  exact lv_isub C.1 C.2.1 d (k H locs ls hl hR hA hS)
theorem J_imul (C : JC K cc nL own fr mc ms) {x y : Int32} (d : decode cc pc = .ok (.imul, 1)) (k : J K cells slots (pc + 1) lv (.int (x * y) :: rest) h) : J K cells slots pc lv (.int y :: .int x :: rest) h := by
  obtain ⟨p, l, e, R, s, m, args, below, meth, c, G, A, Q⟩ := K
  intro H locs ls hl hR hA hS
  exact lv_imul C.1 C.2.1 d (k H locs ls hl hR hA hS)
theorem J_iand (C : JC K cc nL own fr mc ms) {x y : Int32} (d : decode cc pc = .ok (.iand, 1)) (k : J K cells slots (pc + 1) lv (.int (x &&& y) :: rest) h) : J K cells slots pc lv (.int y :: .int x :: rest) h := by
  obtain ⟨p, l, e, R, s, m, args, below, meth, c, G, A, Q⟩ := K
  intro H locs ls hl hR hA hS
  exact lv_iand C.1 C.2.1 d (k H locs ls hl hR hA hS)
theorem J_ior (C : JC K cc nL own fr mc ms) {x y : Int32} (d : decode cc pc = .ok (.ior, 1)) (k : J K cells slots (pc + 1) lv (.int (x ||| y) :: rest) h) : J K cells slots pc lv (.int y :: .int x :: rest) h := by
  obtain ⟨p, l, e, R, s, m, args, below, meth, c, G, A, Q⟩ := K
  intro H locs ls hl hR hA hS
  exact lv_ior C.1 C.2.1 d (k H locs ls hl hR hA hS)
theorem J_ishl (C : JC K cc nL own fr mc ms) {x y : Int32} (d : decode cc pc = .ok (.ishl, 1)) (k : J K cells slots (pc + 1) lv (.int (x <<< (y &&& 31)) :: rest) h) : J K cells slots pc lv (.int y :: .int x :: rest) h := by
  obtain ⟨p, l, e, R, s, m, args, below, meth, c, G, A, Q⟩ := K
  intro H locs ls hl hR hA hS
  exact lv_ishl C.1 C.2.1 d (k H locs ls hl hR hA hS)
theorem J_ishr (C : JC K cc nL own fr mc ms) {x y : Int32} (d : decode cc pc = .ok (.ishr, 1)) (k : J K cells slots (pc + 1) lv (.int (x >>> (y &&& 31)) :: rest) h) : J K cells slots pc lv (.int y :: .int x :: rest) h := by
  obtain ⟨p, l, e, R, s, m, args, below, meth, c, G, A, Q⟩ := K
  intro H locs ls hl hR hA hS
  exact lv_ishr C.1 C.2.1 d (k H locs ls hl hR hA hS)
theorem J_idiv (C : JC K cc nL own fr mc ms) {x y : Int32} (hne : ¬ y = 0) (d : decode cc pc = .ok (.idiv, 1)) (k : J K cells slots (pc + 1) lv (.int (x / y) :: rest) h) : J K cells slots pc lv (.int y :: .int x :: rest) h := by
  obtain ⟨p, l, e, R, s, m, args, below, meth, c, G, A, Q⟩ := K
  intro H locs ls hl hR hA hS
  exact lv_idiv C.1 C.2.1 d hne (k H locs ls hl hR hA hS)
theorem J_lsub (C : JC K cc nL own fr mc ms) {x y : Int64} (d : decode cc pc = .ok (.lsub, 1)) (k : J K cells slots (pc + 1) lv (.long (x - y) :: rest) h) : J K cells slots pc lv (.long y :: .long x :: rest) h := by
  obtain ⟨p, l, e, R, s, m, args, below, meth, c, G, A, Q⟩ := K
  intro H locs ls hl hR hA hS
  exact lv_lsub C.1 C.2.1 d (k H locs ls hl hR hA hS)
theorem J_land (C : JC K cc nL own fr mc ms) {x y : Int64} (d : decode cc pc = .ok (.land, 1)) (k : J K cells slots (pc + 1) lv (.long (x &&& y) :: rest) h) : J K cells slots pc lv (.long y :: .long x :: rest) h := by
  obtain ⟨p, l, e, R, s, m, args, below, meth, c, G, A, Q⟩ := K
  intro H locs ls hl hR hA hS
  exact lv_land C.1 C.2.1 d (k H locs ls hl hR hA hS)
theorem J_lor (C : JC K cc nL own fr mc ms) {x y : Int64} (d : decode cc pc = .ok (.lor, 1)) (k : J K cells slots (pc + 1) lv (.long (x ||| y) :: rest) h) : J K cells slots pc lv (.long y :: .long x :: rest) h := by
  obtain ⟨p, l, e, R, s, m, args, below, meth, c, G, A, Q⟩ := K
  intro H locs ls hl hR hA hS
  exact lv_lor C.1 C.2.1 d (k H locs ls hl hR hA hS)
theorem J_lxor (C : JC K cc nL own fr mc ms) {x y : Int64} (d : decode cc pc = .ok (.lxor, 1)) (k : J K cells slots (pc + 1) lv (.long (x ^^^ y) :: rest) h) : J K cells slots pc lv (.long y :: .long x :: rest) h := by
  obtain ⟨p, l, e, R, s, m, args, below, meth, c, G, A, Q⟩ := K
  intro H locs ls hl hR hA hS
  exact lv_lxor C.1 C.2.1 d (k H locs ls hl hR hA hS)
theorem J_lshl (C : JC K cc nL own fr mc ms) {x : Int64} {y : Int32} (d : decode cc pc = .ok (.lshl, 1)) (k : J K cells slots (pc + 1) lv (.long (x <<< (y.toInt64 &&& 63)) :: rest) h) : J K cells slots pc lv (.int y :: .long x :: rest) h := by
  obtain ⟨p, l, e, R, s, m, args, below, meth, c, G, A, Q⟩ := K
  intro H locs ls hl hR hA hS
  exact lv_lshl C.1 C.2.1 d rfl (k H locs ls hl hR hA hS)
theorem J_lshr (C : JC K cc nL own fr mc ms) {x : Int64} {y : Int32} (d : decode cc pc = .ok (.lshr, 1)) (k : J K cells slots (pc + 1) lv (.long (x >>> (y.toInt64 &&& 63)) :: rest) h) : J K cells slots pc lv (.int y :: .long x :: rest) h := by
  obtain ⟨p, l, e, R, s, m, args, below, meth, c, G, A, Q⟩ := K
  intro H locs ls hl hR hA hS
  exact lv_lshr C.1 C.2.1 d rfl (k H locs ls hl hR hA hS)
theorem J_lushr (C : JC K cc nL own fr mc ms) {x : Int64} {y : Int32} (d : decode cc pc = .ok (.lushr, 1)) (k : J K cells slots (pc + 1) lv (.long (x.toUInt64 >>> (y.toInt64.toUInt64 &&& Int64.toUInt64 63)).toInt64 :: rest) h) : J K cells slots pc lv (.int y :: .long x :: rest) h := by
  obtain ⟨p, l, e, R, s, m, args, below, meth, c, G, A, Q⟩ := K
  intro H locs ls hl hR hA hS
  exact lv_lushr C.1 C.2.1 d rfl (k H locs ls hl hR hA hS)
theorem J_i2l (C : JC K cc nL own fr mc ms) {x : Int32} (d : decode cc pc = .ok (.i2l, 1)) (k : J K cells slots (pc + 1) lv (.long x.toInt64 :: rest) h) : J K cells slots pc lv (.int x :: rest) h := by
  obtain ⟨p, l, e, R, s, m, args, below, meth, c, G, A, Q⟩ := K
  intro H locs ls hl hR hA hS
  exact lv_i2l C.1 C.2.1 d rfl (k H locs ls hl hR hA hS)
theorem J_l2i (C : JC K cc nL own fr mc ms) {x : Int64} (d : decode cc pc = .ok (.l2i, 1)) (k : J K cells slots (pc + 1) lv (.int x.toInt32 :: rest) h) : J K cells slots pc lv (.long x :: rest) h := by
  obtain ⟨p, l, e, R, s, m, args, below, meth, c, G, A, Q⟩ := K
  intro H locs ls hl hR hA hS
  exact lv_l2i C.1 C.2.1 d rfl (k H locs ls hl hR hA hS)
theorem J_i2b (C : JC K cc nL own fr mc ms) {x : Int32} (d : decode cc pc = .ok (.i2b, 1)) (k : J K cells slots (pc + 1) lv (.int x.toInt8.toInt32 :: rest) h) : J K cells slots pc lv (.int x :: rest) h := by
  obtain ⟨p, l, e, R, s, m, args, below, meth, c, G, A, Q⟩ := K
  intro H locs ls hl hR hA hS
  exact lv_i2b C.1 C.2.1 d rfl (k H locs ls hl hR hA hS)
theorem J_iconst (C : JC K cc nL own fr mc ms) {n : Int} {v : Int32} (hv : Int32.ofInt n = v) (d : decode cc pc = .ok (.iconst n, 1)) (k : J K cells slots (pc + 1) lv (.int v :: rest) h) : J K cells slots pc lv (rest) h := by
  obtain ⟨p, l, e, R, s, m, args, below, meth, c, G, A, Q⟩ := K
  intro H locs ls hl hR hA hS
  exact lv_iconst C.1 C.2.1 d hv (k H locs ls hl hR hA hS)
theorem J_bipush (C : JC K cc nL own fr mc ms) {n : Int} {v : Int32} (hv : (Int8.ofInt n).toInt32 = v) (d : decode cc pc = .ok (.bipush n, 2)) (k : J K cells slots (pc + 2) lv (.int v :: rest) h) : J K cells slots pc lv (rest) h := by
  obtain ⟨p, l, e, R, s, m, args, below, meth, c, G, A, Q⟩ := K
  intro H locs ls hl hR hA hS
  exact lv_bipush C.1 C.2.1 d hv (k H locs ls hl hR hA hS)
theorem J_sipush (C : JC K cc nL own fr mc ms) {n : Int} {v : Int32} (hv : (Int16.ofInt n).toInt32 = v) (d : decode cc pc = .ok (.sipush n, 3)) (k : J K cells slots (pc + 3) lv (.int v :: rest) h) : J K cells slots pc lv (rest) h := by
  obtain ⟨p, l, e, R, s, m, args, below, meth, c, G, A, Q⟩ := K
  intro H locs ls hl hR hA hS
  exact lv_sipush C.1 C.2.1 d hv (k H locs ls hl hR hA hS)
theorem J_lconst (C : JC K cc nL own fr mc ms) {n : Fin 2} {v : Int64} (hv : Int64.ofNat (n : Nat) = v) (d : decode cc pc = .ok (.lconst n, 1)) (k : J K cells slots (pc + 1) lv (.long v :: rest) h) : J K cells slots pc lv (rest) h := by
  obtain ⟨p, l, e, R, s, m, args, below, meth, c, G, A, Q⟩ := K
  intro H locs ls hl hR hA hS
  exact lv_lconst C.1 C.2.1 d hv (k H locs ls hl hR hA hS)
theorem J_null (C : JC K cc nL own fr mc ms)  (d : decode cc pc = .ok (.aconst_null, 1)) (k : J K cells slots (pc + 1) lv (.null :: rest) h) : J K cells slots pc lv (rest) h := by
  obtain ⟨p, l, e, R, s, m, args, below, meth, c, G, A, Q⟩ := K
  intro H locs ls hl hR hA hS
  exact lv_null C.1 C.2.1 d (k H locs ls hl hR hA hS)
theorem J_ldc (C : JC K cc nL own fr mc ms) {i : Nat} {v : Int32} (hw : Cond.constant own i v ∈ jv_T) (d : decode cc pc = .ok (.ldc i, 2)) (k : J K cells slots (pc + 2) lv (.int v :: rest) h) : J K cells slots pc lv (rest) h := by
  obtain ⟨p, l, e, R, s, m, args, below, meth, c, G, A, Q⟩ := K
  intro H locs ls hl hR hA hS
  exact lv_ldc C.1 C.2.1 C.2.2.2.1 (C.2.2.2.2.1 _ hw) d (k H locs ls hl hR hA hS)
theorem J_ldc2 (C : JC K cc nL own fr mc ms) {i : Nat} {v : Int64} (hw : Cond.constantLong own i v ∈ jv_T) (d : decode cc pc = .ok (.ldc2_w i, 3)) (k : J K cells slots (pc + 3) lv (.long v :: rest) h) : J K cells slots pc lv (rest) h := by
  obtain ⟨p, l, e, R, s, m, args, below, meth, c, G, A, Q⟩ := K
  intro H locs ls hl hR hA hS
  exact lv_ldc2 C.1 C.2.1 C.2.2.2.1 (C.2.2.2.2.1 _ hw) d (k H locs ls hl hR hA hS)
theorem J_iload_n (C : JC K cc nL own fr mc ms) {i : Fin 4} {x : Int32} (hv : lv (i : Nat) = some (.int x)) (d : decode cc pc = .ok (.iload_n i, 1)) (k : J K cells slots (pc + 1) lv (.int x :: rest) h) : J K cells slots pc lv (rest) h := by
  obtain ⟨p, l, e, R, s, m, args, below, meth, c, G, A, Q⟩ := K
  intro H locs ls hl hR hA hS
  exact lv_iload_n C.1 C.2.1 d rfl (hl.2.2 _ _ hv) (k H locs ls hl hR hA hS)
theorem J_iload (C : JC K cc nL own fr mc ms) {i : Nat} {x : Int32} (hv : lv i = some (.int x)) (d : decode cc pc = .ok (.iload i, 2)) (k : J K cells slots (pc + 2) lv (.int x :: rest) h) : J K cells slots pc lv (rest) h := by
  obtain ⟨p, l, e, R, s, m, args, below, meth, c, G, A, Q⟩ := K
  intro H locs ls hl hR hA hS
  exact lv_iload C.1 C.2.1 d (hl.2.2 _ _ hv) (k H locs ls hl hR hA hS)
theorem J_lload_n (C : JC K cc nL own fr mc ms) {i : Fin 4} {x : Int64} (hv : lv (i : Nat) = some (.long x)) (d : decode cc pc = .ok (.lload_n i, 1)) (k : J K cells slots (pc + 1) lv (.long x :: rest) h) : J K cells slots pc lv (rest) h := by
  obtain ⟨p, l, e, R, s, m, args, below, meth, c, G, A, Q⟩ := K
  intro H locs ls hl hR hA hS
  exact lv_lload_n C.1 C.2.1 d rfl (hl.2.2 _ _ hv) (k H locs ls hl hR hA hS)
theorem J_lload (C : JC K cc nL own fr mc ms) {i : Nat} {x : Int64} (hv : lv i = some (.long x)) (d : decode cc pc = .ok (.lload i, 2)) (k : J K cells slots (pc + 2) lv (.long x :: rest) h) : J K cells slots pc lv (rest) h := by
  obtain ⟨p, l, e, R, s, m, args, below, meth, c, G, A, Q⟩ := K
  intro H locs ls hl hR hA hS
  exact lv_lload C.1 C.2.1 d (hl.2.2 _ _ hv) (k H locs ls hl hR hA hS)
theorem J_aload_n (C : JC K cc nL own fr mc ms) {i : Fin 4} {x : Nat} (hv : lv (i : Nat) = some (.ref x)) (d : decode cc pc = .ok (.aload_n i, 1)) (k : J K cells slots (pc + 1) lv (.ref x :: rest) h) : J K cells slots pc lv (rest) h := by
  obtain ⟨p, l, e, R, s, m, args, below, meth, c, G, A, Q⟩ := K
  intro H locs ls hl hR hA hS
  exact lv_aload_n C.1 C.2.1 d rfl (hl.2.2 _ _ hv) (k H locs ls hl hR hA hS)
theorem J_aload (C : JC K cc nL own fr mc ms) {i : Nat} {x : Nat} (hv : lv i = some (.ref x)) (d : decode cc pc = .ok (.aload i, 2)) (k : J K cells slots (pc + 2) lv (.ref x :: rest) h) : J K cells slots pc lv (rest) h := by
  obtain ⟨p, l, e, R, s, m, args, below, meth, c, G, A, Q⟩ := K
  intro H locs ls hl hR hA hS
  exact lv_aload C.1 C.2.1 d (hl.2.2 _ _ hv) (k H locs ls hl hR hA hS)
theorem J_aload_nN (C : JC K cc nL own fr mc ms) {i : Fin 4} (hv : lv (i : Nat) = some .null) (d : decode cc pc = .ok (.aload_n i, 1)) (k : J K cells slots (pc + 1) lv (.null :: rest) h) : J K cells slots pc lv (rest) h := by
  obtain ⟨p, l, e, R, s, m, args, below, meth, c, G, A, Q⟩ := K
  intro H locs ls hl hR hA hS
  exact lv_aload_nN C.1 C.2.1 d rfl (hl.2.2 _ _ hv) (k H locs ls hl hR hA hS)
theorem J_aload_nq (C : JC K cc nL own fr mc ms) {i : Fin 4} {x : Option Nat} (hv : lv (i : Nat) = some (va_rf x)) (d : decode cc pc = .ok (.aload_n i, 1)) (k : J K cells slots (pc + 1) lv (va_rf x :: rest) h) : J K cells slots pc lv rest h := by
  cases x with
  | none => exact J_aload_nN C hv d k
  | some a => exact J_aload_n C hv d k
theorem J_aloadN (C : JC K cc nL own fr mc ms) {i : Nat} (hv : lv i = some .null) (d : decode cc pc = .ok (.aload i, 2)) (k : J K cells slots (pc + 2) lv (.null :: rest) h) : J K cells slots pc lv (rest) h := by
  obtain ⟨p, l, e, R, s, m, args, below, meth, c, G, A, Q⟩ := K
  intro H locs ls hl hR hA hS
  exact lv_aloadN C.1 C.2.1 d (hl.2.2 _ _ hv) (k H locs ls hl hR hA hS)
theorem J_aloadq (C : JC K cc nL own fr mc ms) {i : Nat} {x : Option Nat} (hv : lv i = some (va_rf x)) (d : decode cc pc = .ok (.aload i, 2)) (k : J K cells slots (pc + 2) lv (va_rf x :: rest) h) : J K cells slots pc lv rest h := by
  cases x with
  | none => exact J_aloadN C hv d k
  | some a => exact J_aload C hv d k
theorem J_istore_n (C : JC K cc nL own fr mc ms) {i : Fin 4} {x : Int32} (hn : (i : Nat) < nL) (d : decode cc pc = .ok (.istore_n i, 1)) (k : J K cells slots (pc + 1) (jv_u1 lv (i : Nat) (.int x)) rest h) : J K cells slots pc lv (.int x :: rest) h := by
  obtain ⟨p, l, e, R, s, m, args, below, meth, c, G, A, Q⟩ := K
  intro H locs ls hl hR hA hS
  exact lv_istore_n C.1 C.2.1 d rfl hl.lst (C.2.2.1 ▸ hn) rfl (fun ls1 hl1 => k H locs ls1 (hl.st1 hl1) hR hA hS)
theorem J_lstore_n (C : JC K cc nL own fr mc ms) {i : Fin 4} {x : Int64} (hn : (i : Nat) + 1 < nL) (d : decode cc pc = .ok (.lstore_n i, 1)) (k : J K cells slots (pc + 1) (jv_u2 lv (i : Nat) (.long x)) rest h) : J K cells slots pc lv (.long x :: rest) h := by
  obtain ⟨p, l, e, R, s, m, args, below, meth, c, G, A, Q⟩ := K
  intro H locs ls hl hR hA hS
  exact lv_lstore_n C.1 C.2.1 d rfl hl.lst (C.2.2.1 ▸ hn) rfl (fun ls1 hl1 => k H locs ls1 (hl.st2 hl1) hR hA hS)
theorem J_astore_n (C : JC K cc nL own fr mc ms) {i : Fin 4} {x : Nat} (hn : (i : Nat) < nL) (d : decode cc pc = .ok (.astore_n i, 1)) (k : J K cells slots (pc + 1) (jv_u1 lv (i : Nat) (.ref x)) rest h) : J K cells slots pc lv (.ref x :: rest) h := by
  obtain ⟨p, l, e, R, s, m, args, below, meth, c, G, A, Q⟩ := K
  intro H locs ls hl hR hA hS
  exact lv_astore_n C.1 C.2.1 d rfl hl.lst (C.2.2.1 ▸ hn) rfl (fun ls1 hl1 => k H locs ls1 (hl.st1 hl1) hR hA hS)
theorem J_istore (C : JC K cc nL own fr mc ms) {i : Nat} {x : Int32} (hn : i < nL) (d : decode cc pc = .ok (.istore i, 2)) (k : J K cells slots (pc + 2) (jv_u1 lv i (.int x)) rest h) : J K cells slots pc lv (.int x :: rest) h := by
  obtain ⟨p, l, e, R, s, m, args, below, meth, c, G, A, Q⟩ := K
  intro H locs ls hl hR hA hS
  exact lv_istore C.1 C.2.1 d hl.lst (C.2.2.1 ▸ hn) rfl (fun ls1 hl1 => k H locs ls1 (hl.st1 hl1) hR hA hS)
theorem J_lstore (C : JC K cc nL own fr mc ms) {i : Nat} {x : Int64} (hn : i + 1 < nL) (d : decode cc pc = .ok (.lstore i, 2)) (k : J K cells slots (pc + 2) (jv_u2 lv i (.long x)) rest h) : J K cells slots pc lv (.long x :: rest) h := by
  obtain ⟨p, l, e, R, s, m, args, below, meth, c, G, A, Q⟩ := K
  intro H locs ls hl hR hA hS
  exact lv_lstore C.1 C.2.1 d hl.lst (C.2.2.1 ▸ hn) rfl (fun ls1 hl1 => k H locs ls1 (hl.st2 hl1) hR hA hS)
theorem J_astore (C : JC K cc nL own fr mc ms) {i : Nat} {x : Nat} (hn : i < nL) (d : decode cc pc = .ok (.astore i, 2)) (k : J K cells slots (pc + 2) (jv_u1 lv i (.ref x)) rest h) : J K cells slots pc lv (.ref x :: rest) h := by
  obtain ⟨p, l, e, R, s, m, args, below, meth, c, G, A, Q⟩ := K
  intro H locs ls hl hR hA hS
  exact lv_astore C.1 C.2.1 d hl.lst (C.2.2.1 ▸ hn) rfl (fun ls1 hl1 => k H locs ls1 (hl.st1 hl1) hR hA hS)
theorem J_astore_nN (C : JC K cc nL own fr mc ms) {i : Fin 4} (hn : (i : Nat) < nL) (d : decode cc pc = .ok (.astore_n i, 1)) (k : J K cells slots (pc + 1) (jv_u1 lv (i : Nat) .null) rest h) : J K cells slots pc lv (.null :: rest) h := by
  obtain ⟨p, l, e, R, s, m, args, below, meth, c, G, A, Q⟩ := K
  intro H locs ls hl hR hA hS
  exact lv_astore_nN C.1 C.2.1 d rfl hl.lst (C.2.2.1 ▸ hn) rfl (fun ls1 hl1 => k H locs ls1 (hl.st1 hl1) hR hA hS)
theorem J_astore_nq (C : JC K cc nL own fr mc ms) {i : Fin 4} {x : Option Nat} (hn : (i : Nat) < nL) (d : decode cc pc = .ok (.astore_n i, 1)) (k : J K cells slots (pc + 1) (jv_u1 lv (i : Nat) (va_rf x)) rest h) : J K cells slots pc lv (va_rf x :: rest) h := by
  cases x with
  | none => exact J_astore_nN C hn d k
  | some a => exact J_astore_n C hn d k
theorem J_astoreN (C : JC K cc nL own fr mc ms) {i : Nat} (hn : i < nL) (d : decode cc pc = .ok (.astore i, 2)) (k : J K cells slots (pc + 2) (jv_u1 lv i .null) rest h) : J K cells slots pc lv (.null :: rest) h := by
  obtain ⟨p, l, e, R, s, m, args, below, meth, c, G, A, Q⟩ := K
  intro H locs ls hl hR hA hS
  exact lv_astoreN C.1 C.2.1 d hl.lst (C.2.2.1 ▸ hn) rfl (fun ls1 hl1 => k H locs ls1 (hl.st1 hl1) hR hA hS)
theorem J_astoreq (C : JC K cc nL own fr mc ms) {i : Nat} {x : Option Nat} (hn : i < nL) (d : decode cc pc = .ok (.astore i, 2)) (k : J K cells slots (pc + 2) (jv_u1 lv i (va_rf x)) rest h) : J K cells slots pc lv (va_rf x :: rest) h := by
  cases x with
  | none => exact J_astoreN C hn d k
  | some a => exact J_astore C hn d k
theorem J_iinc (C : JC K cc nL own fr mc ms) {i : Nat} {n : Int} {x : Int32} (hv : lv i = some (.int x)) (hn : i < nL) (d : decode cc pc = .ok (.iinc i n, 3)) (k : J K cells slots (pc + 3) (jv_u1 lv i (.int (x + Int32.ofInt n))) rest h) : J K cells slots pc lv rest h := by
  obtain ⟨p, l, e, R, s, m, args, below, meth, c, G, A, Q⟩ := K
  intro H locs ls hl hR hA hS
  obtain ⟨q, hq⟩ := List.getElem?_of_mem (hl.mem hv)
  exact lv_iinc C.1 C.2.1 d hl.lst hq rfl (C.2.2.1 ▸ hn) rfl (fun ls1 hl1 => k H locs ls1 (hl.st1 hl1) hR hA hS)
theorem J_dup (C : JC K cc nL own fr mc ms) {v : Value} (hc : v.category = 1) (d : decode cc pc = .ok (.dup, 1)) (k : J K cells slots (pc + 1) lv (v :: v :: rest) h) : J K cells slots pc lv (v :: rest) h := by
  obtain ⟨p, l, e, R, s, m, args, below, meth, c, G, A, Q⟩ := K
  intro H locs ls hl hR hA hS
  exact lv_dup C.1 C.2.1 d hc (k H locs ls hl hR hA hS)
theorem J_pop (C : JC K cc nL own fr mc ms) {v : Value} (hc : v.category = 1) (d : decode cc pc = .ok (.pop, 1)) (k : J K cells slots (pc + 1) lv (rest) h) : J K cells slots pc lv (v :: rest) h := by
  obtain ⟨p, l, e, R, s, m, args, below, meth, c, G, A, Q⟩ := K
  intro H locs ls hl hR hA hS
  exact lv_pop C.1 C.2.1 d hc (k H locs ls hl hR hA hS)
theorem J_dup2 (C : JC K cc nL own fr mc ms) {v w : Value} (hc : v.category = 1) (hc2 : w.category = 1) (d : decode cc pc = .ok (.dup2, 1)) (k : J K cells slots (pc + 1) lv (v :: w :: v :: w :: rest) h) : J K cells slots pc lv (v :: w :: rest) h := by
  obtain ⟨p, l, e, R, s, m, args, below, meth, c, G, A, Q⟩ := K
  intro H locs ls hl hR hA hS
  exact lv_dup2_11 C.1 C.2.1 d hc hc2 (k H locs ls hl hR hA hS)
theorem J_lcmp (C : JC K cc nL own fr mc ms) {x y : Int64} (d : decode cc pc = .ok (.lcmp, 1)) (k : J K cells slots (pc + 1) lv (.int (lg_cmp x y) :: rest) h) : J K cells slots pc lv (.long y :: .long x :: rest) h := by
  obtain ⟨p, l, e, R, s, m, args, below, meth, c, G, A, Q⟩ := K
  intro H locs ls hl hR hA hS
  exact W.lcmp C.1 C.2.1 d (k H locs ls hl hR hA hS)
theorem J_goto (C : JC K cc nL own fr mc ms) {off : Int} (tgt : Nat) (ht : (pc : Int) + off = (tgt : Int)) (d : decode cc pc = .ok (.goto off, 3)) (k : J K cells slots tgt lv rest h) : J K cells slots pc lv (rest) h := by
  obtain ⟨p, l, e, R, s, m, args, below, meth, c, G, A, Q⟩ := K
  intro H locs ls hl hR hA hS
  exact lv_goto C.1 C.2.1 d ht (k H locs ls hl hR hA hS)
theorem J_icmp_eq (C : JC K cc nL own fr mc ms) {x y : Int32} {off : Int} (tgt : Nat) (ht : (pc : Int) + off = (tgt : Int)) (d : decode cc pc = .ok (.if_icmp .eq off, 3)) (kt : x = y → J K cells slots tgt lv rest h) (kf : ¬ x = y → J K cells slots (pc + 3) lv rest h) : J K cells slots pc lv (.int y :: .int x :: rest) h := by
  obtain ⟨p, l, e, R, s, m, args, below, meth, c, G, A, Q⟩ := K
  intro H locs ls hl hR hA hS
  exact lv_icmp_eq C.1 C.2.1 d ht (fun z => kt z H locs ls hl hR hA hS) (fun z => kf z H locs ls hl hR hA hS)
theorem J_if_eq (C : JC K cc nL own fr mc ms) {x : Int32} {off : Int} (tgt : Nat) (ht : (pc : Int) + off = (tgt : Int)) (d : decode cc pc = .ok (.ifCond .eq off, 3)) (kt : x = 0 → J K cells slots tgt lv rest h) (kf : ¬ x = 0 → J K cells slots (pc + 3) lv rest h) : J K cells slots pc lv (.int x :: rest) h := by
  obtain ⟨p, l, e, R, s, m, args, below, meth, c, G, A, Q⟩ := K
  intro H locs ls hl hR hA hS
  exact lv_if_eq C.1 C.2.1 d ht (fun z => kt z H locs ls hl hR hA hS) (fun z => kf z H locs ls hl hR hA hS)
theorem J_icmp_ne (C : JC K cc nL own fr mc ms) {x y : Int32} {off : Int} (tgt : Nat) (ht : (pc : Int) + off = (tgt : Int)) (d : decode cc pc = .ok (.if_icmp .ne off, 3)) (kt : ¬ x = y → J K cells slots tgt lv rest h) (kf : x = y → J K cells slots (pc + 3) lv rest h) : J K cells slots pc lv (.int y :: .int x :: rest) h := by
  obtain ⟨p, l, e, R, s, m, args, below, meth, c, G, A, Q⟩ := K
  intro H locs ls hl hR hA hS
  exact lv_icmp_ne C.1 C.2.1 d ht (fun z => kt z H locs ls hl hR hA hS) (fun z => kf z H locs ls hl hR hA hS)
theorem J_if_ne (C : JC K cc nL own fr mc ms) {x : Int32} {off : Int} (tgt : Nat) (ht : (pc : Int) + off = (tgt : Int)) (d : decode cc pc = .ok (.ifCond .ne off, 3)) (kt : ¬ x = 0 → J K cells slots tgt lv rest h) (kf : x = 0 → J K cells slots (pc + 3) lv rest h) : J K cells slots pc lv (.int x :: rest) h := by
  obtain ⟨p, l, e, R, s, m, args, below, meth, c, G, A, Q⟩ := K
  intro H locs ls hl hR hA hS
  exact lv_if_ne C.1 C.2.1 d ht (fun z => kt z H locs ls hl hR hA hS) (fun z => kf z H locs ls hl hR hA hS)
theorem J_icmp_lt (C : JC K cc nL own fr mc ms) {x y : Int32} {off : Int} (tgt : Nat) (ht : (pc : Int) + off = (tgt : Int)) (d : decode cc pc = .ok (.if_icmp .lt off, 3)) (kt : x < y → J K cells slots tgt lv rest h) (kf : ¬ x < y → J K cells slots (pc + 3) lv rest h) : J K cells slots pc lv (.int y :: .int x :: rest) h := by
  obtain ⟨p, l, e, R, s, m, args, below, meth, c, G, A, Q⟩ := K
  intro H locs ls hl hR hA hS
  exact lv_icmp_lt C.1 C.2.1 d ht (fun z => kt z H locs ls hl hR hA hS) (fun z => kf z H locs ls hl hR hA hS)
theorem J_if_lt (C : JC K cc nL own fr mc ms) {x : Int32} {off : Int} (tgt : Nat) (ht : (pc : Int) + off = (tgt : Int)) (d : decode cc pc = .ok (.ifCond .lt off, 3)) (kt : x < 0 → J K cells slots tgt lv rest h) (kf : ¬ x < 0 → J K cells slots (pc + 3) lv rest h) : J K cells slots pc lv (.int x :: rest) h := by
  obtain ⟨p, l, e, R, s, m, args, below, meth, c, G, A, Q⟩ := K
  intro H locs ls hl hR hA hS
  exact lv_if_lt C.1 C.2.1 d ht (fun z => kt z H locs ls hl hR hA hS) (fun z => kf z H locs ls hl hR hA hS)
theorem J_icmp_ge (C : JC K cc nL own fr mc ms) {x y : Int32} {off : Int} (tgt : Nat) (ht : (pc : Int) + off = (tgt : Int)) (d : decode cc pc = .ok (.if_icmp .ge off, 3)) (kt : y ≤ x → J K cells slots tgt lv rest h) (kf : ¬ y ≤ x → J K cells slots (pc + 3) lv rest h) : J K cells slots pc lv (.int y :: .int x :: rest) h := by
  obtain ⟨p, l, e, R, s, m, args, below, meth, c, G, A, Q⟩ := K
  intro H locs ls hl hR hA hS
  exact lv_icmp_ge C.1 C.2.1 d ht (fun z => kt z H locs ls hl hR hA hS) (fun z => kf z H locs ls hl hR hA hS)
theorem J_if_ge (C : JC K cc nL own fr mc ms) {x : Int32} {off : Int} (tgt : Nat) (ht : (pc : Int) + off = (tgt : Int)) (d : decode cc pc = .ok (.ifCond .ge off, 3)) (kt : 0 ≤ x → J K cells slots tgt lv rest h) (kf : ¬ 0 ≤ x → J K cells slots (pc + 3) lv rest h) : J K cells slots pc lv (.int x :: rest) h := by
  obtain ⟨p, l, e, R, s, m, args, below, meth, c, G, A, Q⟩ := K
  intro H locs ls hl hR hA hS
  exact lv_if_ge C.1 C.2.1 d ht (fun z => kt z H locs ls hl hR hA hS) (fun z => kf z H locs ls hl hR hA hS)
theorem J_icmp_gt (C : JC K cc nL own fr mc ms) {x y : Int32} {off : Int} (tgt : Nat) (ht : (pc : Int) + off = (tgt : Int)) (d : decode cc pc = .ok (.if_icmp .gt off, 3)) (kt : y < x → J K cells slots tgt lv rest h) (kf : ¬ y < x → J K cells slots (pc + 3) lv rest h) : J K cells slots pc lv (.int y :: .int x :: rest) h := by
  obtain ⟨p, l, e, R, s, m, args, below, meth, c, G, A, Q⟩ := K
  intro H locs ls hl hR hA hS
  exact lv_icmp_gt C.1 C.2.1 d ht (fun z => kt z H locs ls hl hR hA hS) (fun z => kf z H locs ls hl hR hA hS)
theorem J_if_gt (C : JC K cc nL own fr mc ms) {x : Int32} {off : Int} (tgt : Nat) (ht : (pc : Int) + off = (tgt : Int)) (d : decode cc pc = .ok (.ifCond .gt off, 3)) (kt : 0 < x → J K cells slots tgt lv rest h) (kf : ¬ 0 < x → J K cells slots (pc + 3) lv rest h) : J K cells slots pc lv (.int x :: rest) h := by
  obtain ⟨p, l, e, R, s, m, args, below, meth, c, G, A, Q⟩ := K
  intro H locs ls hl hR hA hS
  exact lv_if_gt C.1 C.2.1 d ht (fun z => kt z H locs ls hl hR hA hS) (fun z => kf z H locs ls hl hR hA hS)
theorem J_icmp_le (C : JC K cc nL own fr mc ms) {x y : Int32} {off : Int} (tgt : Nat) (ht : (pc : Int) + off = (tgt : Int)) (d : decode cc pc = .ok (.if_icmp .le off, 3)) (kt : x ≤ y → J K cells slots tgt lv rest h) (kf : ¬ x ≤ y → J K cells slots (pc + 3) lv rest h) : J K cells slots pc lv (.int y :: .int x :: rest) h := by
  obtain ⟨p, l, e, R, s, m, args, below, meth, c, G, A, Q⟩ := K
  intro H locs ls hl hR hA hS
  exact lv_icmp_le C.1 C.2.1 d ht (fun z => kt z H locs ls hl hR hA hS) (fun z => kf z H locs ls hl hR hA hS)
theorem J_if_le (C : JC K cc nL own fr mc ms) {x : Int32} {off : Int} (tgt : Nat) (ht : (pc : Int) + off = (tgt : Int)) (d : decode cc pc = .ok (.ifCond .le off, 3)) (kt : x ≤ 0 → J K cells slots tgt lv rest h) (kf : ¬ x ≤ 0 → J K cells slots (pc + 3) lv rest h) : J K cells slots pc lv (.int x :: rest) h := by
  obtain ⟨p, l, e, R, s, m, args, below, meth, c, G, A, Q⟩ := K
  intro H locs ls hl hR hA hS
  exact lv_if_le C.1 C.2.1 d ht (fun z => kt z H locs ls hl hR hA hS) (fun z => kf z H locs ls hl hR hA hS)
theorem J_acmp_eq (C : JC K cc nL own fr mc ms) {rx ry : Option Nat} {off : Int} (tgt : Nat) (ht : (pc : Int) + off = (tgt : Int)) (d : decode cc pc = .ok (.if_acmp .eq off, 3)) (kt : rx = ry → J K cells slots tgt lv rest h) (kf : ¬ rx = ry → J K cells slots (pc + 3) lv rest h) : J K cells slots pc lv (va_rf ry :: va_rf rx :: rest) h := by
  obtain ⟨p, l, e, R, s, m, args, below, meth, c, G, A, Q⟩ := K
  intro H locs ls hl hR hA hS
  exact lv_acmp_eq C.1 C.2.1 d ht (fun z => kt z H locs ls hl hR hA hS) (fun z => kf z H locs ls hl hR hA hS)
theorem J_acmp_ne (C : JC K cc nL own fr mc ms) {rx ry : Option Nat} {off : Int} (tgt : Nat) (ht : (pc : Int) + off = (tgt : Int)) (d : decode cc pc = .ok (.if_acmp .ne off, 3)) (kt : ¬ rx = ry → J K cells slots tgt lv rest h) (kf : rx = ry → J K cells slots (pc + 3) lv rest h) : J K cells slots pc lv (va_rf ry :: va_rf rx :: rest) h := by
  obtain ⟨p, l, e, R, s, m, args, below, meth, c, G, A, Q⟩ := K
  intro H locs ls hl hR hA hS
  exact lv_acmp_ne C.1 C.2.1 d ht (fun z => kt z H locs ls hl hR hA hS) (fun z => kf z H locs ls hl hR hA hS)
theorem J_ifnull (C : JC K cc nL own fr mc ms) {x : Option Nat} {off : Int} (tgt : Nat) (ht : (pc : Int) + off = (tgt : Int)) (d : decode cc pc = .ok (.ifnull off, 3)) (kt : x = none → J K cells slots tgt lv rest h) (kf : ∀ a, x = some a → J K cells slots (pc + 3) lv rest h) : J K cells slots pc lv (va_rf x :: rest) h := by
  obtain ⟨p, l, e, R, s, m, args, below, meth, c, G, A, Q⟩ := K
  intro H locs ls hl hR hA hS
  cases x with
  | none => exact lv_ifnullN C.1 C.2.1 d ht (kt rfl H locs ls hl hR hA hS)
  | some a => exact lv_ifnull C.1 C.2.1 d (kf a rfl H locs ls hl hR hA hS)
theorem J_ifnonnull (C : JC K cc nL own fr mc ms) {x : Option Nat} {off : Int} (tgt : Nat) (ht : (pc : Int) + off = (tgt : Int)) (d : decode cc pc = .ok (.ifnonnull off, 3)) (kt : ∀ a, x = some a → J K cells slots tgt lv rest h) (kf : x = none → J K cells slots (pc + 3) lv rest h) : J K cells slots pc lv (va_rf x :: rest) h := by
  obtain ⟨p, l, e, R, s, m, args, below, meth, c, G, A, Q⟩ := K
  intro H locs ls hl hR hA hS
  cases x with
  | none => exact lv_ifnonnullN C.1 C.2.1 d (kf rfl H locs ls hl hR hA hS)
  | some a => exact lv_ifnonnull C.1 C.2.1 d ht (kt a rfl H locs ls hl hR hA hS)
theorem J_sub {L : List (Nat × Value)} (hL : jv_ok L lv) {st : List Value} (k : J K cells slots pc (jv_l L) st h) : J K cells slots pc lv st h := by
  obtain ⟨p, l, e, R, s, m, args, below, meth, c, G, A, Q⟩ := K
  intro H locs ls hl hR hA hS
  exact k H locs ls (hl.sub hL) hR hA hS
theorem J_widen {c1 s1 : Nat} {st : List Value} (h1 : cells ≤ c1) (h2 : slots ≤ s1) (k : J K c1 s1 pc lv st h) : J K cells slots pc lv st h := by
  obtain ⟨p, l, e, R, s, m, args, below, meth, c, G, A, Q⟩ := K
  intro H locs ls hl hR hA hS
  exact W.widen h1 h2 (k H locs ls hl hR hA hS)
theorem J_eq {st st1 : List Value} {h1 : jH} (e1 : st1 = st) (e2 : h1 = h) (k : J K cells slots pc lv st1 h1) : J K cells slots pc lv st h := by
  subst e1; subst e2; exact k
theorem J_tableOut (C : JC K cc nL own fr mc ms) {dflt lo hi : Int} {offs : Array Int} {len : Nat} {x : Int32} (tgt : Nat) (z : x.toInt < lo ∨ hi < x.toInt) (ht : (pc : Int) + dflt = (tgt : Int)) (d : decode cc pc = .ok (.tableswitch dflt lo hi offs, len)) (k : J K cells slots tgt lv rest h) : J K cells slots pc lv (.int x :: rest) h := by
  obtain ⟨p, l, e, R, s, m, args, below, meth, c, G, A, Q⟩ := K
  intro H locs ls hl hR hA hS
  exact lv_tableOut C.1 C.2.1 d z ht (k H locs ls hl hR hA hS)
theorem J_tableIn (C : JC K cc nL own fr mc ms) {dflt lo hi : Int} {offs : Array Int} {len : Nat} {x : Int32} {off : Int} (tgt : Nat) (h1 : ¬ x.toInt < lo) (h2 : ¬ hi < x.toInt) (ho : offs[(x.toInt - lo).toNat]? = some off) (ht : (pc : Int) + off = (tgt : Int)) (d : decode cc pc = .ok (.tableswitch dflt lo hi offs, len)) (k : J K cells slots tgt lv rest h) : J K cells slots pc lv (.int x :: rest) h := by
  obtain ⟨p, l, e, R, s, m, args, below, meth, c, G, A, Q⟩ := K
  intro H locs ls hl hR hA hS
  exact lv_tableIn C.1 C.2.1 d h1 h2 ho ht (k H locs ls hl hR hA hS)
theorem J_lookup (C : JC K cc nL own fr mc ms) {dflt : Int} {ps : Array (Int × Int)} {len : Nat} {x : Int32} {off : Int} (tgt : Nat) (hp : (ps.toList.zip (ps.toList.drop 1)).all (fun (a, next) => a.1 < next.1) = true) (ho : Op.lookupswitch.offset ps.toList dflt x.toInt = off) (ht : (pc : Int) + off = (tgt : Int)) (d : decode cc pc = .ok (.lookupswitch dflt ps, len)) (k : J K cells slots tgt lv rest h) : J K cells slots pc lv (.int x :: rest) h := by
  obtain ⟨p, l, e, R, s, m, args, below, meth, c, G, A, Q⟩ := K
  intro H locs ls hl hR hA hS
  exact lv_lookup C.1 C.2.1 d hp ho ht (k H locs ls hl hR hA hS)
end JROWS
end
section
-- fields: a link of the class 'own', by its place; the field's class and slot
def FL (own : String) (i ci k : Nat) (ty : FieldType) (fin : Bool) : Prop :=
  ∃ (q : vw_C) (ref : String), jv_cl[ci]? = some q ∧ k < q.2.2 ∧ (ref = (q.2.1 k).1 ∨ Cond.sameField ref (q.2.1 k).1 (q.2.1 k).2.1 (q.2.1 k).2.2.1 ∈ jv_T) ∧ (Cond.fieldLink own i ref (q.2.1 k).2.1 (q.2.1 k).2.2.1 ∈ jv_T ∨ ∃ host : String, Cond.fieldLinkNest own i ref (q.2.1 k).2.1 (q.2.1 k).2.2.1 host ∈ jv_NL) ∧
  parseFieldDescriptor (q.2.1 k).2.2.1 = some ty ∧ (q.2.1 k).2.2.2 = fin ∧ (∀ w ∈ u_ws q.1 q.2.1 q.2.2, w ∈ jv_T) ∧ (∃ ty0 : Nat → FieldType, ∀ k, k < q.2.2 → parseFieldDescriptor (q.2.1 k).2.2.1 = some (ty0 k)) ∧
  (∀ a, a < q.2.2 → ∀ b, b < q.2.2 → a ≠ b → (q.2.1 a).2.1 ≠ (q.2.1 b).2.1)
theorem jv_same {s : State} {args : Array Value} {ref o n d : String} (h : ref = o ∨ Cond.sameField ref o n d ∈ jv_T) (hts : ∀ w ∈ jv_T, w.before args s = true) : ∀ x, s.fieldFound? o n d = some x → s.fieldFound? ref n d = some x := by
  rcases h with rfl | h
  · exact fun _ z => z
  · exact u_same (hts _ h)
section JHEAP
variable {K : jT} {cc : ByteArray} {nL fr mc ms cells slots pc : Nat} {own : String} {lv : Nat → Option Value} {rest : List Value} {h : jH}
theorem J_get (C : JC K cc nL own fr mc ms) {i ci k : Nat} {ty : FieldType} {fin : Bool} (F : FL own i ci k ty fin) {a : Nat} {fs : List Value} {v : Value} (hh : h a = some (.inr (ci, fs))) (hv : fs[k]? = some v) (d : decode cc pc = .ok (.getfield i, 3)) (kk : J K cells slots (pc + 3) lv (v :: rest) h) : J K cells slots pc lv (.ref a :: rest) h := by
  obtain ⟨p, l, e, R, s, m, args, below, meth, c, G, A, Q⟩ := K
  intro H locs ls hl hR hA hS
  obtain ⟨⟨CC, T, N⟩, ref, hc, hk, hsm, hlk, -, -, hin, -, -⟩ := F
  obtain ⟨c1, c2, c3, c4, c5, c6, c7, c8, c9, c10, -⟩ := C
  have hP := hR.one hh
  rcases hlk with hlk | ⟨host, hlk⟩
  · exact va_get c1 c2 c5 hin c4 c6 hP 0 rfl hc k hk (c5 _ hlk) (jv_same hsm c5) hv d (kk H locs ls hl hR hA hS)
  · exact va_getN c1 c2 c5 hin c4 c6 hP 0 rfl hc k hk (c10.use hlk) (jv_same hsm c5) hv d (kk H locs ls hl hR hA hS)
theorem J_put (C : JC K cc nL own fr mc ms) {i ci k : Nat} {ty : FieldType} (F : FL own i ci k ty false) {a : Nat} {fs : List Value} {v : Value} (hh : h a = some (.inr (ci, fs))) (hl9 : k < fs.length) (hn : narrow ty v = v) (hfit : fits ty v = true) (d : decode cc pc = .ok (.putfield i, 3)) (kk : J K cells slots (pc + 3) lv rest (jv_up h a (.inr (ci, fs.set k v)))) : J K cells slots pc lv (v :: .ref a :: rest) h := by
  obtain ⟨p, l, e, R, s, m, args, below, meth, c, G, A, Q⟩ := K
  intro H locs ls hl hR hA hS
  obtain ⟨⟨CC, T, N⟩, ref, hc, hk, hsm, hlk, hty, hfin, hin, ⟨ty0, hty0⟩, hnm⟩ := F
  obtain ⟨hexec, hb, c3, hown, hts, hK, c7, c8, c9, c10, -⟩ := C
  have hP := hR.one hh
  have hap := va_apart (own := own) hts hin ty0 hty0 hnm hK hc
  obtain ⟨r, h1, cell, q1, q2, q3, q4⟩ := hP 0 _ rfl
  have hr : r = (CC, T, N) := Option.some.inj (h1.symm.trans hc)
  subst hr
  obtain ⟨hS2, hfc, kC, hkC, hkind⟩ := hK.1 ci _ hc
  obtain ⟨cf, kf, fi, f, hi, hsl⟩ := hS2 k hk
  have hlay := hts _ (hin _ (u_in_lay hk))
  unfold u_lay at hlay
  rw [if_neg (by rw [hfin]; decide)] at hlay
  have hst := (u_facts hfc hkC (u_lays hts hin hk) hi).1
  have h6 := u_store hfc hkC hkind hlay hi hty hn hfit
  have go : ∀ H' : Heap, H'[a]? = some (cell.setSlot f.slot v) → H'.size = H.size → (∀ q, q ≠ a → H'[q]? = H[q]?) → W p l e R s m args below meth c H' (locs ++ [⟨a, f.slot⟩]) cells slots Q (F0 m (pc + 3) ls rest) := by
    intro H' e1 e2 e3
    rw [hsl] at e1 ⊢
    exact kk H' _ ls hl (hR.put ⟨_, hc, t_OB.to (V := updV (vp_V fs) k v) ⟨_, e1, q2, q3, t_set q4 hap hk v⟩ (fun j _ => vp_updV_set hl9 v j)⟩ e3) (jv_dom hA (hA a (by rw [hh]; exact fun z => by cases z))) (hS.put e2 e3 (hA a (by rw [hh]; exact fun z => by cases z)))
  rcases hlk with hlk | ⟨host, hlk⟩
  · exact W.putK hexec hb (f := f) ⟨hown, hts _ hlk, ⟨_, _, _, jv_same hsm hts _ hi⟩, hst⟩ (by rw [q2]; exact h6) q1 q3 (by rw [hsl]; exact k2_hasslot (q4 k hk)) rfl rfl d go
  · exact va_WputK hexec hb (f := f) hown (c10.use hlk) (jv_same hsm hts _ hi) hst (by rw [q2]; exact h6) q1 q3 (by rw [hsl]; exact k2_hasslot (q4 k hk)) rfl rfl d go
theorem J_putF (C : JC K cc nL own fr mc ms) (I : JI K "<init>") {i ci k : Nat} {ty : FieldType} (F : FL own i ci k ty true) {q9 : vw_C} (hq9 : jv_cl[ci]? = some q9) (hdecl : (q9.2.1 k).1 = own) {a : Nat} {fs : List Value} {v : Value} (hh : h a = some (.inr (ci, fs))) (hl9 : k < fs.length) (hn : narrow ty v = v) (hfit : fits ty v = true) (hw9 : Cond.fieldLink own i (q9.2.1 k).1 (q9.2.1 k).2.1 (q9.2.1 k).2.2.1 ∈ jv_T) (d : decode cc pc = .ok (.putfield i, 3)) (kk : J K cells slots (pc + 3) lv rest (jv_up h a (.inr (ci, fs.set k v)))) : J K cells slots pc lv (v :: .ref a :: rest) h := by
  obtain ⟨p, l, e, R, s, m, args, below, meth, c, G, A, Q⟩ := K
  intro H locs ls hl hR hA hS
  obtain ⟨⟨CC, T, N⟩, ref, hc, hk, -, -, hty, hfin, hin, ⟨ty0, hty0⟩, hnm⟩ := F
  cases Option.some.inj (hq9.symm.trans hc)
  obtain ⟨hexec, hb, c3, hown, hts, hK, c7, c8, c9, c10, -⟩ := C
  have hP := hR.one hh
  have hap := va_apart (own := own) hts hin ty0 hty0 hnm hK hc
  obtain ⟨r, h1, cell, q1, q2, q3, q4⟩ := hP 0 _ rfl
  have hr : r = (CC, T, N) := Option.some.inj (h1.symm.trans hc)
  subst hr
  obtain ⟨hS2, hfc, kC, hkC, hkind⟩ := hK.1 ci _ hc
  obtain ⟨cf, kf, fi, f, hi, hsl⟩ := hS2 k hk
  have hlay := hts _ (hin _ (u_in_lay hk))
  unfold u_lay at hlay
  rw [if_pos hfin] at hlay
  have hst := (u_facts hfc hkC (u_lays hts hin hk) hi).1
  have hcf : m.cls = cf := by
    obtain ⟨_, _, c', _, _, _, -, -, hf', -, -, -, hown2, -⟩ := Cond.laysFinal_spec hlay
    have e1 : c' = cf := by have := hi.symm.trans hf'; simp at this; exact this.1.symm
    rw [hdecl] at hown2
    rw [← e1]; exact Option.some.inj (hown.symm.trans hown2)
  have h6 := u_fits hfc hkC hkind (Or.inr hlay) hi hty hn hfit
  refine W.putFinK hexec hb hown (hts _ hw9) hi hst hcf I (by rw [q2]; exact h6) q1 q3 (by rw [hsl]; exact k2_hasslot (q4 k hk)) rfl rfl d fun H' e1 e2 e3 => ?_
  rw [hsl] at e1 ⊢
  exact kk H' _ ls hl (hR.put ⟨_, hc, t_OB.to (V := updV (vp_V fs) k v) ⟨_, e1, q2, q3, t_set q4 hap hk v⟩ (fun j _ => vp_updV_set hl9 v j)⟩ e3) (jv_dom hA (hA a (by rw [hh]; exact fun z => by cases z))) (hS.put e2 e3 (hA a (by rw [hh]; exact fun z => by cases z)))
-- arrays: reads
theorem J_iald (C : JC K cc nL own fr mc ms) {a n : Nat} {f : Nat → Int32} (hh : h a = some (.inl (0, n, .inl f))) {i : Int32} {j : Nat} (hi : i = nI j) (hj : j < n) (hn : n < 2147483648) (d : decode cc pc = .ok (.iaload, 1)) (kk : J K cells slots (pc + 1) lv (.int (f j) :: rest) h) : J K cells slots pc lv (.int i :: .ref a :: rest) h := by
  obtain ⟨p, l, e, R, s, m, args, below, meth, c, G, A, Q⟩ := K
  intro H locs ls hl hR hA hS
  subst hi
  exact va_iald C.1 C.2.1 C.2.2.2.2.2.1 (hR.one hh) 0 0 rfl rfl (vp_in_nI hj hn) d (by rw [nI_clamp (by omega)]; exact kk H locs ls hl hR hA hS)
theorem J_bald (C : JC K cc nL own fr mc ms) {a n : Nat} {f : Nat → Int32} (hh : h a = some (.inl (1, n, .inl f))) {i : Int32} {j : Nat} (hi : i = nI j) (hj : j < n) (hn : n < 2147483648) (d : decode cc pc = .ok (.baload, 1)) (kk : J K cells slots (pc + 1) lv (.int (f j) :: rest) h) : J K cells slots pc lv (.int i :: .ref a :: rest) h := by
  obtain ⟨p, l, e, R, s, m, args, below, meth, c, G, A, Q⟩ := K
  intro H locs ls hl hR hA hS
  subst hi
  exact va_bald C.1 C.2.1 C.2.2.2.2.2.1 (hR.one hh) 0 1 rfl rfl (vp_in_nI hj hn) d (by rw [nI_clamp (by omega)]; exact kk H locs ls hl hR hA hS)
theorem J_zald (C : JC K cc nL own fr mc ms) {a n : Nat} {f : Nat → Int32} (hh : h a = some (.inl (2, n, .inl f))) {i : Int32} {j : Nat} (hi : i = nI j) (hj : j < n) (hn : n < 2147483648) (d : decode cc pc = .ok (.baload, 1)) (kk : J K cells slots (pc + 1) lv (.int (f j) :: rest) h) : J K cells slots pc lv (.int i :: .ref a :: rest) h := by
  obtain ⟨p, l, e, R, s, m, args, below, meth, c, G, A, Q⟩ := K
  intro H locs ls hl hR hA hS
  subst hi
  exact va_zald C.1 C.2.1 C.2.2.2.2.2.1 (hR.one hh) 0 2 rfl rfl (vp_in_nI hj hn) d (by rw [nI_clamp (by omega)]; exact kk H locs ls hl hR hA hS)
theorem J_lald (C : JC K cc nL own fr mc ms) {a n : Nat} {f : Nat → Int64} (hh : h a = some (.inl (3, n, .inr (.inl f)))) {i : Int32} {j : Nat} (hi : i = nI j) (hj : j < n) (hn : n < 2147483648) (d : decode cc pc = .ok (.laload, 1)) (kk : J K cells slots (pc + 1) lv (.long (f j) :: rest) h) : J K cells slots pc lv (.int i :: .ref a :: rest) h := by
  obtain ⟨p, l, e, R, s, m, args, below, meth, c, G, A, Q⟩ := K
  intro H locs ls hl hR hA hS
  subst hi
  exact va_lald C.1 C.2.1 C.2.2.2.2.2.1 (hR.one hh) 0 3 rfl rfl (vp_in_nI hj hn) d (by rw [nI_clamp (by omega)]; exact kk H locs ls hl hR hA hS)
theorem J_aald (C : JC K cc nL own fr mc ms) {a n kd : Nat} {f : Nat → Option Nat} (hh : h a = some (.inl (kd, n, .inr (.inr (.inr (.inr f)))))) (hkd : kd = 4 ∨ kd = 5) {i : Int32} {j : Nat} (hi : i = nI j) (hj : j < n) (hn : n < 2147483648) (d : decode cc pc = .ok (.aaload, 1)) (kk : J K cells slots (pc + 1) lv (va_rf (f j) :: rest) h) : J K cells slots pc lv (.int i :: .ref a :: rest) h := by
  obtain ⟨p, l, e, R, s, m, args, below, meth, c, G, A, Q⟩ := K
  intro H locs ls hl hR hA hS
  subst hi
  rcases hkd with rfl | rfl
  · exact va_aldq C.1 C.2.1 C.2.2.2.2.2.1 (hR.one hh) 0 4 rfl rfl (vp_in_nI hj hn) d (by rw [nI_clamp (by omega)]; exact kk H locs ls hl hR hA hS)
  · exact va_aldq C.1 C.2.1 C.2.2.2.2.2.1 (hR.one hh) 0 5 rfl rfl (vp_in_nI hj hn) d (by rw [nI_clamp (by omega)]; exact kk H locs ls hl hR hA hS)
theorem J_alen (C : JC K cc nL own fr mc ms) {a kd : Nat} {x : vp_A} (hh : h a = some (.inl (kd, x))) (hkd : kd < 6) (d : decode cc pc = .ok (.arraylength, 1)) (kk : J K cells slots (pc + 1) lv (.int (nI x.1) :: rest) h) : J K cells slots pc lv (.ref a :: rest) h := by
  obtain ⟨p, l, e, R, s, m, args, below, meth, c, G, A, Q⟩ := K
  intro H locs ls hl hR hA hS
  match kd, hkd with
  | 0, _ => exact va_alen C.1 C.2.1 C.2.2.2.2.2.1 (hR.one hh) 0 0 rfl rfl rfl d (kk H locs ls hl hR hA hS)
  | 1, _ => exact va_alen C.1 C.2.1 C.2.2.2.2.2.1 (hR.one hh) 0 1 rfl rfl rfl d (kk H locs ls hl hR hA hS)
  | 2, _ => exact va_alen C.1 C.2.1 C.2.2.2.2.2.1 (hR.one hh) 0 2 rfl rfl rfl d (kk H locs ls hl hR hA hS)
  | 3, _ => exact va_alen C.1 C.2.1 C.2.2.2.2.2.1 (hR.one hh) 0 3 rfl rfl rfl d (kk H locs ls hl hR hA hS)
  | 4, _ => exact va_alen C.1 C.2.1 C.2.2.2.2.2.1 (hR.one hh) 0 4 rfl rfl rfl d (kk H locs ls hl hR hA hS)
  | 5, _ => exact va_alen C.1 C.2.1 C.2.2.2.2.2.1 (hR.one hh) 0 5 rfl rfl rfl d (kk H locs ls hl hR hA hS)
-- arrays: writes
theorem J_iast (C : JC K cc nL own fr mc ms) {a n : Nat} {f : Nat → Int32} (hh : h a = some (.inl (0, n, .inl f))) {i x : Int32} {j : Nat} (hi : i = nI j) (hj : j < n) (hn : n < 2147483648) (d : decode cc pc = .ok (.iastore, 1)) (kk : J K cells slots (pc + 1) lv rest (jv_up h a (.inl (0, n, .inl (upd f j x))))) : J K cells slots pc lv (.int x :: .int i :: .ref a :: rest) h := by
  obtain ⟨p, l, e, R, s, m, args, below, meth, c, G, A, Q⟩ := K
  intro H locs ls hl hR hA hS
  subst hi
  have hin : vp_in (nI j) n := vp_in_nI hj hn
  have hK := C.2.2.2.2.2.1
  have ha := hR a _ hh
  have hAa := hA a (by rw [hh]; exact fun z => by cases z)
  refine W.iast C.1 C.2.1 ha ((hK.2 0 _ rfl).1 n (fun j => .int (f j))) (fun q => by cases q) (by show ¬ (_ < 0 ∨ (arrV _ _ _).slots.size ≤ _); rw [arrV_size]; exact hin) rfl rfl d fun H1 e z oq => ?_
  refine kk H1 _ ls hl (hR.put ?_ oq) (jv_dom hA hAa) (hS.put z oq hAa)
  show H1[a]? = some (vp_cell _ _)
  rw [e]
  show some ((vp_cell (G.2.1 0) (n, .inl f)).setSlot _ _) = some (vp_cell (G.2.1 0) (n, .inl (upd f j x)))
  rw [vp_cell_i, vp_cell_i, arrV_store, nI_clamp (by omega)]
  congr 2
  funext q
  by_cases hq : q = j
  · subst hq
    simp [updV, upd]
  · simp [updV, upd, hq]
theorem J_bast (C : JC K cc nL own fr mc ms) {a n : Nat} {f : Nat → Int32} (hh : h a = some (.inl (1, n, .inl f))) {i x : Int32} {j : Nat} (hi : i = nI j) (hj : j < n) (hn : n < 2147483648) (d : decode cc pc = .ok (.bastore, 1)) (kk : J K cells slots (pc + 1) lv rest (jv_up h a (.inl (1, n, .inl (upd f j (vp_nar .byte x)))))) : J K cells slots pc lv (.int x :: .int i :: .ref a :: rest) h := by
  obtain ⟨p, l, e, R, s, m, args, below, meth, c, G, A, Q⟩ := K
  intro H locs ls hl hR hA hS
  subst hi
  have hin : vp_in (nI j) n := vp_in_nI hj hn
  have hK := C.2.2.2.2.2.1
  have ha := hR a _ hh
  have hAa := hA a (by rw [hh]; exact fun z => by cases z)
  refine W.bast C.1 C.2.1 ha ((hK.2 1 _ rfl).1 n (fun j => .int (f j))) (fun q => by cases q) (by show ¬ (_ < 0 ∨ (arrV _ _ _).slots.size ≤ _); rw [arrV_size]; exact hin) rfl rfl d fun H1 e z oq => ?_
  refine kk H1 _ ls hl (hR.put ?_ oq) (jv_dom hA hAa) (hS.put z oq hAa)
  show H1[a]? = some (vp_cell _ _)
  rw [e]
  show some ((vp_cell (G.2.1 1) (n, .inl f)).setSlot _ _) = some (vp_cell (G.2.1 1) (n, .inl (upd f j (vp_nar .byte x))))
  rw [vp_cell_i, vp_cell_i, arrV_store, nI_clamp (by omega)]
  congr 2
  funext q
  by_cases hq : q = j
  · subst hq
    simp [updV, upd, vp_nar]
    rfl
  · simp [updV, upd, hq]
theorem J_zast (C : JC K cc nL own fr mc ms) {a n : Nat} {f : Nat → Int32} (hh : h a = some (.inl (2, n, .inl f))) {i x : Int32} {j : Nat} (hi : i = nI j) (hj : j < n) (hn : n < 2147483648) (d : decode cc pc = .ok (.bastore, 1)) (kk : J K cells slots (pc + 1) lv rest (jv_up h a (.inl (2, n, .inl (upd f j (vp_nar .boolean x)))))) : J K cells slots pc lv (.int x :: .int i :: .ref a :: rest) h := by
  obtain ⟨p, l, e, R, s, m, args, below, meth, c, G, A, Q⟩ := K
  intro H locs ls hl hR hA hS
  subst hi
  have hin : vp_in (nI j) n := vp_in_nI hj hn
  have hK := C.2.2.2.2.2.1
  have ha := hR a _ hh
  have hAa := hA a (by rw [hh]; exact fun z => by cases z)
  refine W.zast C.1 C.2.1 ha ((hK.2 2 _ rfl).1 n (fun j => .int (f j))) (fun q => by cases q) (by show ¬ (_ < 0 ∨ (arrV _ _ _).slots.size ≤ _); rw [arrV_size]; exact hin) rfl rfl d fun H1 e z oq => ?_
  refine kk H1 _ ls hl (hR.put ?_ oq) (jv_dom hA hAa) (hS.put z oq hAa)
  show H1[a]? = some (vp_cell _ _)
  rw [e]
  show some ((vp_cell (G.2.1 2) (n, .inl f)).setSlot _ _) = some (vp_cell (G.2.1 2) (n, .inl (upd f j (vp_nar .boolean x))))
  rw [vp_cell_i, vp_cell_i, arrV_store, nI_clamp (by omega)]
  congr 2
  funext q
  by_cases hq : q = j
  · subst hq
    simp [updV, upd, vp_nar]
    rfl
  · simp [updV, upd, hq]
theorem J_last (C : JC K cc nL own fr mc ms) {a n : Nat} {f : Nat → Int64} (hh : h a = some (.inl (3, n, .inr (.inl f)))) {i : Int32} {x : Int64} {j : Nat} (hi : i = nI j) (hj : j < n) (hn : n < 2147483648) (d : decode cc pc = .ok (.lastore, 1)) (kk : J K cells slots (pc + 1) lv rest (jv_up h a (.inl (3, n, .inr (.inl (vp_updL f j x)))))) : J K cells slots pc lv (.long x :: .int i :: .ref a :: rest) h := by
  obtain ⟨p, l, e, R, s, m, args, below, meth, c, G, A, Q⟩ := K
  intro H locs ls hl hR hA hS
  subst hi
  have hin : vp_in (nI j) n := vp_in_nI hj hn
  have hK := C.2.2.2.2.2.1
  have ha := hR a _ hh
  have hAa := hA a (by rw [hh]; exact fun z => by cases z)
  refine W.last C.1 C.2.1 ha ((hK.2 3 _ rfl).1 n (fun j => .long (f j))) (fun q => by cases q) (by show ¬ (_ < 0 ∨ (arrV _ _ _).slots.size ≤ _); rw [arrV_size]; exact hin) rfl rfl d fun H1 e z oq => ?_
  refine kk H1 _ ls hl (hR.put ?_ oq) (jv_dom hA hAa) (hS.put z oq hAa)
  show H1[a]? = some (vp_cell _ _)
  rw [e]
  show some ((vp_cell (G.2.1 3) (n, .inr (.inl f))).setSlot _ _) = some (vp_cell (G.2.1 3) (n, .inr (.inl (vp_updL f j x))))
  rw [vp_cell_l, vp_cell_l, arrV_store, nI_clamp (by omega)]
  congr 2
  funext q
  by_cases hq : q = j
  · subst hq
    simp [updV, vp_updL]
  · simp [updV, vp_updL, hq]
end JHEAP
end
section
section JMAKE
variable {K : jT} {cc : ByteArray} {nL fr mc ms cells slots pc : Nat} {own : String} {lv : Nat → Option Value} {rest : List Value} {h : jH}
theorem J_aast (C : JC K cc nL own fr mc ms) {a n v ci : Nat} {q9 : vw_C} {vs : List Value} {f : Nat → Option Nat} (hh : h a = some (.inl (4, n, .inr (.inr (.inr (.inr f)))))) (hv : h v = some (.inr (ci, vs))) (hc : jv_cl[ci]? = some q9) (hca : Cond.castable q9.1 "java/lang/Object" ∈ jv_NL) {i : Int32} {j : Nat} (hi : i = nI j) (hj : j < n) (hn : n < 2147483648) (d : decode cc pc = .ok (.aastore, 1)) (kk : J K cells slots (pc + 1) lv rest (jv_up h a (.inl (4, n, .inr (.inr (.inr (.inr (va_up f j (some v)))))))) ) : J K cells slots pc lv (.ref v :: .int i :: .ref a :: rest) h := by
  obtain ⟨p, l, e, R, s, m, args, below, meth, c, G, A, Q⟩ := K
  intro H locs ls hl hR hA hS
  subst hi
  have hin : vp_in (nI j) n := vp_in_nI hj hn
  have hlt : (nI j).toNatClampNeg < n := by rw [nI_clamp (by omega)]; exact hj
  have h0 : ¬ nI j < 0 := fun q => hin (Or.inl q)
  have hK := C.2.2.2.2.2.1
  have ha := hR a _ hh
  have hAa := hA a (by rw [hh]; exact fun z => by cases z)
  obtain ⟨r', hr', cellV, g1, g2, g3, -⟩ := hR v _ hv
  have hcls := (hK.1 ci q9 hc).2
  obtain ⟨kA, comp, k1, k2, k3, -⟩ := (hK.2 4 (G.2.1 4, .object "java/lang/Object") rfl).2
  obtain ⟨kE, hkE, -⟩ := Vm.findClass_spec k3
  obtain ⟨c0, t1, f1, f2, f3⟩ := Cond.castable_spec (C.2.2.2.2.2.2.2.2.2.1.use (args := args) hca)
  cases hcls.1.symm.trans f1
  cases k3.symm.trans f2
  obtain ⟨kC, hkC, -⟩ := hcls.2
  refine W.aast C.1 C.2.1 ha (fun q h => by cases h) (fun h => by cases h) k1 k2 rfl hkE ⟨h0, by show _ < (arrV _ _ _).slots.size; rw [arrV_size]; exact hlt⟩ g1 (fun q h => by rw [g3] at h; cases h) (by rw [g2]; exact hkC) (by rw [g2]; exact f3) rfl rfl d fun H1 e z oq => ?_
  refine kk H1 _ ls hl (hR.put ?_ oq) (jv_dom hA hAa) (hS.put z oq hAa)
  show H1[a]? = some (vp_cell _ _)
  rw [e]
  show some ((vp_cell (G.2.1 4) (n, .inr (.inr (.inr (.inr f))))).setSlot _ _) = some (vp_cell (G.2.1 4) (n, .inr (.inr (.inr (.inr (va_up f j (some v)))))))
  rw [vp_cell_q, vp_cell_q, arrV_store, nI_clamp (by omega)]
  congr 2
  funext q
  by_cases hq : q = j
  · subst hq
    simp [updV, va_up, va_rf]
  · simp [updV, va_up, hq]
theorem J_aastN (C : JC K cc nL own fr mc ms) {a n : Nat} {f : Nat → Option Nat} (hh : h a = some (.inl (4, n, .inr (.inr (.inr (.inr f)))))) {i : Int32} {j : Nat} (hi : i = nI j) (hj : j < n) (hn : n < 2147483648) (d : decode cc pc = .ok (.aastore, 1)) (kk : J K cells slots (pc + 1) lv rest (jv_up h a (.inl (4, n, .inr (.inr (.inr (.inr (va_up f j none))))))) ) : J K cells slots pc lv (.null :: .int i :: .ref a :: rest) h := by
  obtain ⟨p, l, e, R, s, m, args, below, meth, c, G, A, Q⟩ := K
  intro H locs ls hl hR hA hS
  subst hi
  have hin : vp_in (nI j) n := vp_in_nI hj hn
  have hK := C.2.2.2.2.2.1
  have ha := hR a _ hh
  have hAa := hA a (by rw [hh]; exact fun z => by cases z)
  refine va_WaastN C.1 C.2.1 ha ((hK.2 4 (G.2.1 4, .object "java/lang/Object") rfl).1 n (fun j => va_rf (f j))) (fun q => by cases q) (by show ¬ (_ < 0 ∨ (arrV _ _ _).slots.size ≤ _); rw [arrV_size]; exact hin) rfl rfl d fun H1 e z oq => ?_
  refine kk H1 _ ls hl (hR.put ?_ oq) (jv_dom hA hAa) (hS.put z oq hAa)
  show H1[a]? = some (vp_cell _ _)
  rw [e]
  show some ((vp_cell (G.2.1 4) (n, .inr (.inr (.inr (.inr f))))).setSlot _ _) = some (vp_cell (G.2.1 4) (n, .inr (.inr (.inr (.inr (va_up f j none))))))
  rw [vp_cell_q, vp_cell_q, arrV_store, nI_clamp (by omega)]
  congr 2
  funext q
  by_cases hq : q = j
  · subst hq
    simp [updV, va_up, va_rf]
  · simp [updV, va_up, hq]
theorem J_aastT (C : JC K cc nL own fr mc ms) {a n v : Nat} {vs : List Value} {f : Nat → Option Nat} (hh : h a = some (.inl (5, n, .inr (.inr (.inr (.inr f)))))) (hv : h v = some (.inr (8, vs))) {i : Int32} {j : Nat} (hi : i = nI j) (hj : j < n) (hn : n < 2147483648) (d : decode cc pc = .ok (.aastore, 1)) (kk : J K cells slots (pc + 1) lv rest (jv_up h a (.inl (5, n, .inr (.inr (.inr (.inr (va_up f j (some v)))))))) ) : J K cells slots pc lv (.ref v :: .int i :: .ref a :: rest) h := by
  obtain ⟨p, l, e, R, s, m, args, below, meth, c, G, A, Q⟩ := K
  intro H locs ls hl hR hA hS
  subst hi
  have hin : vp_in (nI j) n := vp_in_nI hj hn
  have hlt : (nI j).toNatClampNeg < n := by rw [nI_clamp (by omega)]; exact hj
  have h0 : ¬ nI j < 0 := fun q => hin (Or.inl q)
  have hK := C.2.2.2.2.2.1
  have ha := hR a _ hh
  have hAa := hA a (by rw [hh]; exact fun z => by cases z)
  obtain ⟨r', hr', cellV, g1, g2, g3, -⟩ := hR v _ hv
  have hcls := (hK.1 8 (RX9, TX9, 6) rfl).2
  obtain ⟨kA, comp, k1, k2, k3, -⟩ := (hK.2 5 (G.2.1 5, .object "RankedSearch$Term") rfl).2
  have hcomp : comp = G.1.1 8 := Option.some.inj (k3.symm.trans hcls.1)
  subst hcomp
  obtain ⟨kC, hkC, -⟩ := hcls.2
  refine W.aast C.1 C.2.1 ha (fun q h => by cases h) (fun h => by cases h) k1 k2 rfl hkC ⟨h0, by show _ < (arrV _ _ _).slots.size; rw [arrV_size]; exact hlt⟩ g1 (fun q h => by rw [g3] at h; cases h) (by rw [g2]; exact hkC) (by rw [g2]; exact va_assign hcls) rfl rfl d fun H1 e z oq => ?_
  refine kk H1 _ ls hl (hR.put ?_ oq) (jv_dom hA hAa) (hS.put z oq hAa)
  show H1[a]? = some (vp_cell _ _)
  rw [e]
  show some ((vp_cell (G.2.1 5) (n, .inr (.inr (.inr (.inr f))))).setSlot _ _) = some (vp_cell (G.2.1 5) (n, .inr (.inr (.inr (.inr (va_up f j (some v)))))))
  rw [vp_cell_q, vp_cell_q, arrV_store, nI_clamp (by omega)]
  congr 2
  funext q
  by_cases hq : q = j
  · subst hq
    simp [updV, va_up, va_rf]
  · simp [updV, va_up, hq]
-- making
def NW (own : String) (i ci N : Nat) (fs : List Value) : Prop :=
  ∃ (CC : String) (T : u_T), jv_cl[ci]? = some (CC, T, N) ∧ Cond.classLink own i CC ∈ jv_T ∧ Cond.instantiable CC N ∈ jv_T ∧ Cond.initialized CC ∈ jv_T ∧ (∀ w ∈ u_ws CC T N, w ∈ jv_T) ∧
  ∃ ty0 : Nat → FieldType, (∀ k, k < N → parseFieldDescriptor (T k).2.2.1 = some (ty0 k)) ∧ ∀ j, j < N → defaultValue (ty0 j) = vp_V fs j
theorem J_new (C : JC K cc nL own fr mc ms) {i ci N : Nat} {fs : List Value} (F : NW own i ci N fs) (hc : cells + 1 ≤ mc) (hs : slots + N ≤ ms) (d : decode cc pc = .ok (.new i, 3)) (kk : ∀ q : Nat, h q = none → J K (cells + 1) (slots + N) (pc + 3) lv (.ref q :: rest) (jv_up h q (.inr (ci, fs)))) : J K cells slots pc lv rest h := by
  obtain ⟨p, l, e, R, s, m, args, below, meth, c, G, A, Q⟩ := K
  intro H locs ls hl hR hA hS
  obtain ⟨CC, T, hq, w1, w2, w3, hin, ty0, hty, hfs⟩ := F
  obtain ⟨hexec, hb, c3, hown, hts, hK, hRoom, c8, hA0, c10, -⟩ := C
  have hKn := hK.1 ci _ hq
  have hAq : A H.size := hA0 _ hS.1
  refine W.newcK hexec hb hown (hts _ w1) (hts _ w2) (hts _ w3) rfl d (by rw [hRoom]; exact hc) (by rw [hRoom]; exact hs) hKn.2.1 rfl fun H1 kC hkC e1 z1 o1 => ?_
  exact kk H.size (hR.fresh (Nat.le_refl _)) H1 _ ls hl (hR.grow ⟨_, hq, (u_born ty0 hts hin hKn hkC e1 hty).to hfs⟩ o1) (jv_dom hA hAq) ⟨Nat.le_trans hS.1 (by omega), fun x h1 h2 => (o1 x (Nat.lt_of_lt_of_le h1 hS.1)).trans (hS.2.1 x h1 h2), hS.2.2⟩
theorem J_newa (C : JC K cc nL own fr mc ms) {atype : ArrayType} (kd : Nat) {a0 : vp_A} (hw : Cond.arrayClass (newarray.typeOf atype) ∈ jv_T) (hkd : ∀ G : jG, (jv_tys G)[kd]? = some (G.2.1 kd, newarray.typeOf atype)) (hra : ∀ (U : State) (cA : ClassId), va_RA U cA (newarray.typeOf atype) ↔ U.vm.findClass ("[" ++ (newarray.typeOf atype).toString) = some cA) {n : Int32} {N : Nat} (ha : ∀ cA : ClassId, vp_cell cA a0 = arrV cA N (fun _ => defaultValue (newarray.typeOf atype))) (hn : n = nI N) (hN : N * componentBytes (newarray.typeOf atype) ≤ 536870912) (hN2 : N < 2147483648) (hc : cells + 1 ≤ mc) (hs : slots + N ≤ ms) (d : decode cc pc = .ok (.newarray atype, 2)) (kk : ∀ q : Nat, h q = none → J K (cells + 1) (slots + N) (pc + 2) lv (.ref q :: rest) (jv_up h q (.inl (kd, a0)))) : J K cells slots pc lv (.int n :: rest) h := by
  obtain ⟨p, l, e, R, s, m, args, below, meth, c, G, A, Q⟩ := K
  intro H locs ls hl hR hA hS
  subst hn
  obtain ⟨hexec, hb, c3, hown, hts, hK, hRoom, c8, hA0, c10, -⟩ := C
  have hAq : A H.size := hA0 _ hS.1
  refine va_newaK hexec hb (hts _ hw) rfl d rfl (nI_pos hN2) (nI_clamp hN2) hN (by rw [hRoom]; exact hc) (by rw [hRoom]; exact hs) rfl fun H1 cA e1 z1 o1 hAr hNm => ?_
  have hcA : cA = G.2.1 kd := Option.some.inj (hNm.symm.trans ((hra s _).mp (hK.2 kd _ (hkd G)).2))
  subst hcA
  exact kk H.size (hR.fresh (Nat.le_refl _)) H1 _ ls hl (hR.grow (by show H1[H.size]? = some (vp_cell _ _); rw [ha]; exact e1) o1) (jv_dom hA hAq) ⟨Nat.le_trans hS.1 (by omega), fun x h1 h2 => (o1 x (Nat.lt_of_lt_of_le h1 hS.1)).trans (hS.2.1 x h1 h2), hS.2.2⟩
theorem J_newI (C : JC K cc nL own fr mc ms) (hw : Cond.arrayClass .int ∈ jv_T) {n : Int32} {N : Nat} (hn : n = nI N) (hN : N * componentBytes .int ≤ 536870912) (hN2 : N < 2147483648) (hc : cells + 1 ≤ mc) (hs : slots + N ≤ ms) (d : decode cc pc = .ok (.newarray .int, 2)) (kk : ∀ q : Nat, h q = none → J K (cells + 1) (slots + N) (pc + 2) lv (.ref q :: rest) (jv_up h q (.inl (0, N, .inl (fun _ => 0))))) : J K cells slots pc lv (.int n :: rest) h := J_newa (atype := .int) C 0 hw (fun _ => rfl) (fun _ _ => Iff.rfl) (fun _ => rfl) hn hN hN2 hc hs d kk
theorem J_newB (C : JC K cc nL own fr mc ms) (hw : Cond.arrayClass .byte ∈ jv_T) {n : Int32} {N : Nat} (hn : n = nI N) (hN : N * componentBytes .byte ≤ 536870912) (hN2 : N < 2147483648) (hc : cells + 1 ≤ mc) (hs : slots + N ≤ ms) (d : decode cc pc = .ok (.newarray .byte, 2)) (kk : ∀ q : Nat, h q = none → J K (cells + 1) (slots + N) (pc + 2) lv (.ref q :: rest) (jv_up h q (.inl (1, N, .inl (fun _ => 0))))) : J K cells slots pc lv (.int n :: rest) h := J_newa (atype := .byte) C 1 hw (fun _ => rfl) (fun _ _ => Iff.rfl) (fun _ => rfl) hn hN hN2 hc hs d kk
theorem J_newZ (C : JC K cc nL own fr mc ms) (hw : Cond.arrayClass .boolean ∈ jv_T) {n : Int32} {N : Nat} (hn : n = nI N) (hN : N * componentBytes .boolean ≤ 536870912) (hN2 : N < 2147483648) (hc : cells + 1 ≤ mc) (hs : slots + N ≤ ms) (d : decode cc pc = .ok (.newarray .boolean, 2)) (kk : ∀ q : Nat, h q = none → J K (cells + 1) (slots + N) (pc + 2) lv (.ref q :: rest) (jv_up h q (.inl (2, N, .inl (fun _ => 0))))) : J K cells slots pc lv (.int n :: rest) h := J_newa (atype := .boolean) C 2 hw (fun _ => rfl) (fun _ _ => Iff.rfl) (fun _ => rfl) hn hN hN2 hc hs d kk
theorem J_newJ (C : JC K cc nL own fr mc ms) (hw : Cond.arrayClass .long ∈ jv_T) {n : Int32} {N : Nat} (hn : n = nI N) (hN : N * componentBytes .long ≤ 536870912) (hN2 : N < 2147483648) (hc : cells + 1 ≤ mc) (hs : slots + N ≤ ms) (d : decode cc pc = .ok (.newarray .long, 2)) (kk : ∀ q : Nat, h q = none → J K (cells + 1) (slots + N) (pc + 2) lv (.ref q :: rest) (jv_up h q (.inl (3, N, .inr (.inl (fun _ => 0)))))) : J K cells slots pc lv (.int n :: rest) h := J_newa (atype := .long) C 3 hw (fun _ => rfl) (fun _ _ => Iff.rfl) (fun _ => rfl) hn hN hN2 hc hs d kk
theorem J_newq (C : JC K cc nL own fr mc ms) (kd : Nat) {CC : String} {i : Nat} (hkd : ∀ G : jG, (jv_tys G)[kd]? = some (G.2.1 kd, .object CC)) (hw : Cond.classLink own i CC ∈ jv_T) (hw2 : Cond.arrayOver (.object CC) ∈ jv_NL) {n : Int32} {N : Nat} (hn : n = nI N) (hN : N * 4 ≤ 536870912) (hc : cells + 1 ≤ mc) (hs : slots + N ≤ ms) (d : decode cc pc = .ok (.anewarray i, 3)) (kk : ∀ q : Nat, h q = none → J K (cells + 1) (slots + N) (pc + 3) lv (.ref q :: rest) (jv_up h q (.inl (kd, N, .inr (.inr (.inr (.inr (fun _ => none)))))))) : J K cells slots pc lv (.int n :: rest) h := by
  obtain ⟨p, l, e, R, s, m, args, below, meth, c, G, A, Q⟩ := K
  intro H locs ls hl hR hA hS
  subst hn
  obtain ⟨hexec, hb, c3, hown, hts, hK, hRoom, c8, hA0, c10, -⟩ := C
  have hAq : A H.size := hA0 _ hS.1
  have hN2 : N < 2 ^ 31 := by omega
  refine W.anew hexec hb hown (hts _ hw) (c10.use hw2) rfl d rfl (nI_pos hN2) (by rw [nI_clamp hN2]; exact hN) (by rw [hRoom]; exact hc) (by rw [hRoom, nI_clamp hN2]; exact hs) fun cA kA comp f1 f2 f3 f4 => ?_
  rw [nI_clamp hN2]
  obtain ⟨kA2, comp2, g1, g2, g3, g4⟩ := (hK.2 kd _ (hkd G)).2
  have hcA : cA = G.2.1 kd := Option.some.inj (f1.symm.trans g4)
  subst hcA
  generalize hH1 : H.push ({ cls := G.2.1 kd, slots := Array.replicate N .null, vm := .none } : Cell) = H1
  have z1 : H1.size = H.size + 1 := by rw [← hH1, Array.size_push]
  have e1 : H1[H.size]? = some (arrV (G.2.1 kd) N (fun _ => .null)) := by rw [← hH1, Array.getElem?_push_size, ← arrV_new]
  have o1 : ∀ q : Nat, q < H.size → H1[q]? = H[q]? := fun q hq => by rw [← hH1, Array.getElem?_push, if_neg (Nat.ne_of_lt hq)]
  exact kk H.size (hR.fresh (Nat.le_refl _)) H1 _ ls hl (hR.grow (by show H1[H.size]? = some (vp_cell _ _); exact e1) o1) (jv_dom hA hAq) ⟨Nat.le_trans hS.1 (by omega), fun x h1 h2 => (o1 x (Nat.lt_of_lt_of_le h1 hS.1)).trans (hS.2.1 x h1 h2), hS.2.2⟩
theorem J_objInit (C : JC K cc nL own fr mc ms) {i a : Nat} (hw : Cond.methodLink own i objectInit ∈ jv_T) (hw2 : Cond.instanceMethod objectInit ∈ jv_T) (hw3 : Cond.code objectInit ⟨#[0xb1]⟩ 1 none ∈ jv_T) (hfr : 1 ≤ fr) (hW : (rest.map fun v => v.category).sum ≤ 8) (d : decode cc pc = .ok (.invokespecial i, 3)) (kk : J K cells slots (pc + 3) lv rest h) : J K cells slots pc lv (.ref a :: rest) h := by
  obtain ⟨p, l, e, R, s, m, args, below, meth, c, G, A, Q⟩ := K
  intro H locs ls hl hR hA hS
  obtain ⟨hexec, hb, c3, hown, hts, hK, hRoom, c8, hA0, c10, -⟩ := C
  have hz : 2 * (F0 m pc ls (.ref a :: rest)).monitorRoom + (rest.map fun v => v.category).sum ≤ 8 := lv_room hW
  exact W.objInit hexec hb hown (hts _ hw) (hts _ hw2) (hts _ hw3) rfl hl.1 rfl d (by rw [hRoom]; exact hfr) (by rw [hRoom]; show _ ≤ 50 * fr; omega) (kk H locs ls hl hR hA hS)
-- ends
theorem W_mono {p : Program} {l : Launch} {e : Env} {R : Room} {s : State} {m : MethodId} {args : Array Value} {below : List Frame} {meth : Method} {c : Code} {H : Heap} {locs : List Loc} {Q Q' : State → Prop} {g : JFrame} (hQ : ∀ t, Q t → Q' t) (k : W p l e R s m args below meth c H locs cells slots Q g) : W p l e R s m args below meth c H locs cells slots Q' g := by
  intro T hT X
  obtain ⟨t, a, b⟩ := k T hT X
  exact ⟨t, a, hQ t b⟩
theorem jv_end {G : jG} {A : Nat → Prop} {s : State} {H : Heap} {locs : List Loc} {post : Option Value → jH → Prop} {v : Option Value} (hp : post v h) (hR : jv_R G h H) (hA : ∀ q, h q ≠ none → A q) (hS : va_S A s.heap H locs) : ∀ t : State, t.heap = H → s.WarmedH t.vm → (fun (_ : Array Value) (st : State) (oc : Outcome) (t : State) => (∃ r h1, oc = .returned r ∧ post r h1 ∧ jv_R G h1 t.heap ∧ ∀ q, h1 q ≠ none → A q) ∧ va_F A st t) (#[] : Array Value) s (.returned v) t := fun t ht _ => ⟨⟨v, h, rfl, hp, by rw [ht]; exact hR, hA⟩, hS.F ht⟩
theorem J_iret (C : JC K cc nL own fr mc ms) {h0 : jH} {post : Option Value → jH → Prop} (D : JR K (some .int) mc ms h0 post) {x : Int32} (hp : post (some (.int x)) h) (hc : cells ≤ mc) (hs : slots ≤ ms) (d : decode cc pc = .ok (.ireturn, 1)) : J K cells slots pc lv [.int x] h := by
  obtain ⟨p, l, e, R, s, m, args, below, meth, c, G, A, Q⟩ := K
  intro H locs ls hl hR hA hS
  obtain ⟨d1, d2, d3, d4⟩ := D
  exact W_mono d4 (W.widen hc hs (W.iret C.1 C.2.1 d2 (jv_end hp hR hA hS) hS.2.2 d d1))
theorem J_zret (C : JC K cc nL own fr mc ms) {h0 : jH} {post : Option Value → jH → Prop} (D : JR K (some .boolean) mc ms h0 post) {x : Int32} (hx : x = 0 ∨ x = 1) (hp : post (some (.int x)) h) (hc : cells ≤ mc) (hs : slots ≤ ms) (d : decode cc pc = .ok (.ireturn, 1)) : J K cells slots pc lv [.int x] h := by
  obtain ⟨p, l, e, R, s, m, args, below, meth, c, G, A, Q⟩ := K
  intro H locs ls hl hR hA hS
  obtain ⟨d1, d2, d3, d4⟩ := D
  have hn : narrow .boolean (.int x) = .int x := by rcases hx with rfl | rfl <;> rfl
  exact W_mono d4 (W.widen hc hs (W.zret C.1 C.2.1 d2 hn (jv_end hp hR hA hS) hS.2.2 d d1))
theorem J_lret (C : JC K cc nL own fr mc ms) {h0 : jH} {post : Option Value → jH → Prop} (D : JR K (some .long) mc ms h0 post) {x : Int64} (hp : post (some (.long x)) h) (hc : cells ≤ mc) (hs : slots ≤ ms) (d : decode cc pc = .ok (.lreturn, 1)) : J K cells slots pc lv [.long x] h := by
  obtain ⟨p, l, e, R, s, m, args, below, meth, c, G, A, Q⟩ := K
  intro H locs ls hl hR hA hS
  obtain ⟨d1, d2, d3, d4⟩ := D
  exact W_mono d4 (W.widen hc hs (W.lret C.1 C.2.1 d2 (jv_end hp hR hA hS) hS.2.2 d d1))
theorem J_vret (C : JC K cc nL own fr mc ms) {h0 : jH} {post : Option Value → jH → Prop} (D : JR K none mc ms h0 post) (hp : post none h) (hc : cells ≤ mc) (hs : slots ≤ ms) (d : decode cc pc = .ok (.return_, 1)) : J K cells slots pc lv [] h := by
  obtain ⟨p, l, e, R, s, m, args, below, meth, c, G, A, Q⟩ := K
  intro H locs ls hl hR hA hS
  obtain ⟨d1, d2, d3, d4⟩ := D
  exact W_mono d4 (W.widen hc hs (W.vret C.1 C.2.1 d2 (jv_end hp hR hA hS) hS.2.2 d d1))
theorem J_aret (C : JC K cc nL own fr mc ms) {rt : FieldType} {h0 : jH} {post : Option Value → jH → Prop} (D : JR K (some rt) mc ms h0 post) {x : Option Nat} (hrt : (∃ n, rt = .object n) ∨ ∃ t, rt = .array t) (hp : post (some (va_rf x)) h) (hc : cells ≤ mc) (hs : slots ≤ ms) (d : decode cc pc = .ok (.areturn, 1)) : J K cells slots pc lv [va_rf x] h := by
  obtain ⟨p, l, e, R, s, m, args, below, meth, c, G, A, Q⟩ := K
  intro H locs ls hl hR hA hS
  obtain ⟨d1, d2, d3, d4⟩ := D
  exact W_mono d4 (W.widen hc hs (W.aret C.1 C.2.1 d2 hrt (by cases x with | none => exact Or.inl rfl | some a => exact Or.inr ⟨a, rfl⟩) (jv_end hp hR hA hS) hS.2.2 d d1))
-- calls
theorem jv_after {p : Program} {l : Launch} {e : Env} {R : Room} {s : State} {m : MethodId} {args : Array Value} {below : List Frame} {meth : Method} {c : Code} {H : Heap} {locs : List Loc} {Q : State → Prop} {ls : Array Slot} {G : jG} {A : Nat → Prop} {mc2 ms2 : Nat} {st0 : List Value} {a : Array Value} {post : Option Value → jH → Prop}
    (hr : va_Run p l e R s m args below meth c H locs cells slots mc2 ms2 (F0 m pc ls st0) rest (jv_Qc G h H.size post a) (jv_A h H.size)) (hA : ∀ q, h q ≠ none → A q) (hS : va_S A s.heap H locs) (hA0 : ∀ q, s.heap.size ≤ q → A q)
    (kk : ∀ (r : Option Value) (h1 : jH), post r h1 → ∀ (H1 : Heap) (locs1 : List Loc), jv_R G h1 H1 → (∀ q, h1 q ≠ none → A q) → va_S A s.heap H1 locs1 → W p l e R s m args below meth c H1 locs1 (cells + mc2) (slots + ms2) Q (F0 m (pc + 3) ls (r.toList ++ rest))) : W p l e R s m args below meth c H locs cells slots Q (F0 m pc ls st0) := by
  have hAA : ∀ q, jv_A h H.size q → A q := fun q z => z.elim (hA q) (fun w => hA0 q (Nat.le_trans hS.1 w))
  intro T hT X
  obtain ⟨v, st₀, t, T', L, h0, X', hL, e1, e2, ⟨⟨r, h1, hv, hp, hR1, hd1⟩, hz, hk⟩, st⟩ := hr T hT X
  cases hv
  rw [h0] at hz hk
  obtain ⟨t2, a1, b1⟩ := kk v h1 hp T'.heap (locs ++ L) (by rw [e1]; exact hR1) (fun q hq => hAA q (hd1 q hq))
    ⟨Nat.le_trans hS.1 (by rw [e1]; exact hz), fun q h1 h2 => by rw [e1, hk q (Nat.lt_of_lt_of_le h1 hS.1) (fun z => h2 (hAA q z))]; exact hS.2.1 q h1 h2, fun q hq => by
      rcases List.mem_append.mp hq with h | h
      · exact hS.2.2 q h
      · exact hAA _ (hL q h)⟩ T' rfl X'
  exact ⟨t2, st t2 a1, b1⟩
theorem jv_goodIn {ws : List Cond} (h : ∀ w ∈ ws, w ∈ jv_T) : GoodIn jv_T ws := fun w hw => ⟨h w hw, jv_good (h w hw)⟩
/-- what a call's word list needs -/
def CB (y : MethodName) (bytes : ByteArray) (nl : Nat) (ret : Option FieldType) (n : Nat) : Prop :=
  Cond.code y bytes nl ret ∈ jv_T ∧ Cond.initialized y.cls ∈ jv_T ∧ (y.cls ≠ "java/lang/invoke/MethodHandle" ∧ y.cls ≠ "java/lang/invoke/VarHandle" ∧ (parseMethodDescriptor y.desc).map (fun d => d.parameters.length) = some n) ∧ nl ≤ 31
def CWV (own : String) (i : Nat) (y : MethodName) (bytes : ByteArray) (nl : Nat) (ret : Option FieldType) (n : Nat) : Prop := CB y bytes nl ret n ∧ Cond.methodLink own i y ∈ jv_T ∧ Cond.instanceMethod y ∈ jv_T ∧ Cond.selects y.cls y y ∈ jv_T
def CWS (own : String) (i : Nat) (y : MethodName) (bytes : ByteArray) (nl : Nat) (ret : Option FieldType) (n : Nat) : Prop := CB y bytes nl ret n ∧ Cond.methodLink own i y ∈ jv_T ∧ Cond.static y ∈ jv_T
def CWI (own : String) (i : Nat) (y : MethodName) (bytes : ByteArray) (nl : Nat) (n : Nat) : Prop := CB y bytes nl none n ∧ Cond.instanceMethod y ∈ jv_T ∧ y.name = "<init>" ∧ (Cond.methodLink own i y ∈ jv_T ∨ ∃ host : String, Cond.methodLinkNest own i y host ∈ jv_NL)
theorem jv_code_all {y : MethodName} {bytes : ByteArray} {nl : Nat} {ret : Option FieldType} (h : Cond.code y bytes nl ret ∈ jv_T) : ∀ w ∈ Cond.code y bytes nl ret :: jv_T, w ∈ jv_T := fun w hw => (List.mem_cons.mp hw).elim (fun e => by rw [e]; exact h) id
theorem jv_pre {p : Program} {l : Launch} {e : Env} {R : Room} {s : State} {m : MethodId} {args : Array Value} {below : List Frame} {meth : Method} {c : Code} {H : Heap} {locs : List Loc} {Q : State → Prop} {G : jG} {A : Nat → Prop} (C : JC (p, l, e, R, s, m, args, below, meth, c, G, A, Q) cc nL own fr mc ms) (hR : jv_R G h H) (hA : ∀ q, h q ≠ none → A q) (hS : va_S A s.heap H locs) (As : List Value) : ∀ U : State, U.heap = H → s.WarmedH U.vm → jv_Pc G As h H.size As.toArray U := by
  intro U hU hW
  have hAA : ∀ q, jv_A h H.size q → A q := fun q z => z.elim (hA q) (fun w => C.2.2.2.2.2.2.2.2.1 q (Nat.le_trans hS.1 w))
  refine ⟨rfl, by rw [hU], by rw [hU]; exact hR, va_K.moved hW.alike C.2.2.2.2.2.1, ?_, jv_N.warm hW C.2.2.2.2.2.2.2.2.2.1⟩
  rw [hU]
  exact jv_X.moved hW.alike ((C.2.2.2.2.2.2.2.1.kept hS.2.1).narrow hAA)
theorem J_callV (C : JC K cc nL own fr mc ms) {i n b ci nl fr2 mc2 ms2 : Nat} {y : MethodName} {bytes : ByteArray} {ret : Option FieldType} {As fs st : List Value} {q9 : vw_C} {post : Option Value → jH → Prop} (hM : Cn (jv_lk K) y bytes nl ret fr2 mc2 ms2 (.ref b :: As) h post) (cw : CWV own i y bytes nl ret n) (hb : h b = some (.inr (ci, fs))) (hq : jv_cl[ci]? = some q9) (hq2 : q9.1 = y.cls) (hn : As.length = n) (hst : st = As.reverse ++ .ref b :: rest) (hW : (rest.map fun v => v.category).sum ≤ 8) (hfr : fr2 < fr) (hc : cells + mc2 ≤ mc) (hs : slots + ms2 ≤ ms) (d : decode cc pc = .ok (.invokevirtual i, 3))
    (kk : ∀ (r : Option Value) (h1 : jH), post r h1 → J K (cells + mc2) (slots + ms2) (pc + 3) lv (r.toList ++ rest) h1) : J K cells slots pc lv st h := by
  obtain ⟨p, l, e, R, s, m, args, below, meth, c, G, A, Q⟩ := K
  intro H locs ls hl hR hA hS
  have C0 := C
  obtain ⟨hexec, hb9, c3, hown, hts, hK, hRoom, c8, hA0, c10, -⟩ := C
  obtain ⟨⟨w1, w2, w3, w4⟩, w5, w6, w7⟩ := cw
  have hrecv := va_recv hK (hR.one hb) hq (q0 := 0) rfl
  rw [hq2] at hrecv
  refine jv_after (va_runV (Ts := jv_T) (rest := rest) (As := As) ⟨hexec, hb9, rfl, hown, hts⟩ (hM C0.2.2.2.2.2.2.2.2.2.2.2 G H.size rfl) (cwV (ws' := jv_T) n hts (jv_goodIn (fun w hw => ?_)) rfl rfl rfl ⟨rfl, w3⟩ ?_) ⟨jv_Pc_blind, hrecv, jv_pre C0 hR hA hS (.ref b :: As)⟩ rfl hn hl.1 hst (lv_room hW) d (by rw [hRoom]; exact ⟨hc, hs⟩)) hA hS hA0 (fun r h1 hp H1 locs1 hR1 hA1 hS1 => kk r h1 hp H1 locs1 ls hl hR1 hA1 hS1)
  · rcases List.mem_append.mp hw with hw | hw
    · simp only [List.mem_cons, List.not_mem_nil, or_false] at hw
      rcases hw with rfl | rfl | rfl | rfl
      · exact w5
      · exact w6
      · exact w7
      · exact w2
    · exact jv_code_all w1 w hw
  · rw [hRoom]
    exact ⟨hfr, by show 8 + (nl + 11) + 50 * fr2 ≤ 50 * fr; omega⟩
theorem J_callS (C : JC K cc nL own fr mc ms) {i n nl fr2 mc2 ms2 : Nat} {y : MethodName} {bytes : ByteArray} {ret : Option FieldType} {As st : List Value} {post : Option Value → jH → Prop} (hM : Cn (jv_lk K) y bytes nl ret fr2 mc2 ms2 As h post) (cw : CWS own i y bytes nl ret n) (hn : As.length = n) (hst : st = As.reverse ++ rest) (hW : (rest.map fun v => v.category).sum ≤ 8) (hfr : fr2 < fr) (hc : cells + mc2 ≤ mc) (hs : slots + ms2 ≤ ms) (d : decode cc pc = .ok (.invokestatic i, 3))
    (kk : ∀ (r : Option Value) (h1 : jH), post r h1 → J K (cells + mc2) (slots + ms2) (pc + 3) lv (r.toList ++ rest) h1) : J K cells slots pc lv st h := by
  obtain ⟨p, l, e, R, s, m, args, below, meth, c, G, A, Q⟩ := K
  intro H locs ls hl hR hA hS
  have C0 := C
  obtain ⟨hexec, hb9, c3, hown, hts, hK, hRoom, c8, hA0, c10, -⟩ := C
  obtain ⟨⟨w1, w2, w3, w4⟩, w5, w6⟩ := cw
  refine jv_after (va_runS (Ts := jv_T) (rest := rest) (As := As) ⟨hexec, hb9, rfl, hown, hts⟩ (hM C0.2.2.2.2.2.2.2.2.2.2.2 G H.size rfl) (va_cwS (ws' := jv_T) n hts (jv_goodIn (fun w hw => ?_)) rfl rfl rfl w3 ?_) ⟨jv_Pc_blind, jv_pre C0 hR hA hS As⟩ rfl hn hl.1 hst (lv_room hW) d (by rw [hRoom]; exact ⟨hc, hs⟩)) hA hS hA0 (fun r h1 hp H1 locs1 hR1 hA1 hS1 => kk r h1 hp H1 locs1 ls hl hR1 hA1 hS1)
  · rcases List.mem_append.mp hw with hw | hw
    · simp only [List.mem_cons, List.not_mem_nil, or_false] at hw
      rcases hw with rfl | rfl | rfl
      · exact w5
      · exact w6
      · exact w2
    · exact jv_code_all w1 w hw
  · rw [hRoom]
    exact ⟨hfr, by show 8 + (nl + 11) + 50 * fr2 ≤ 50 * fr; omega⟩
theorem J_callI (C : JC K cc nL own fr mc ms) {i n b nl fr2 mc2 ms2 : Nat} {y : MethodName} {bytes : ByteArray} {As st : List Value} {post : Option Value → jH → Prop} (hM : Cn (jv_lk K) y bytes nl none fr2 mc2 ms2 (.ref b :: As) h post) (cw : CWI own i y bytes nl n) (hn : As.length = n) (hst : st = As.reverse ++ .ref b :: rest) (hW : (rest.map fun v => v.category).sum ≤ 8) (hfr : fr2 < fr) (hc : cells + mc2 ≤ mc) (hs : slots + ms2 ≤ ms) (d : decode cc pc = .ok (.invokespecial i, 3))
    (kk : ∀ (r : Option Value) (h1 : jH), post r h1 → J K (cells + mc2) (slots + ms2) (pc + 3) lv (r.toList ++ rest) h1) : J K cells slots pc lv st h := by
  obtain ⟨p, l, e, R, s, m, args, below, meth, c, G, A, Q⟩ := K
  intro H locs ls hl hR hA hS
  have C0 := C
  obtain ⟨hexec, hb9, c3, hown, hts, hK, hRoom, c8, hA0, c10, -⟩ := C
  obtain ⟨⟨w1, w2, w3, w4⟩, w5, w6, w7⟩ := cw
  have hroom : fr2 + 1 ≤ R.frames ∧ 8 + (nl + 11) + 50 * fr2 ≤ R.locals := by
    rw [hRoom]
    exact ⟨hfr, by show 8 + (nl + 11) + 50 * fr2 ≤ 50 * fr; omega⟩
  rcases w7 with w7 | ⟨host, w7⟩
  · exact jv_after (va_runI (Ts := jv_T) (rest := rest) (As := As) ⟨hexec, hb9, rfl, hown, hts⟩ (hM C0.2.2.2.2.2.2.2.2.2.2.2 G H.size rfl) (cwI (ws' := jv_T) n hts (jv_goodIn (jv_code_all w1)) rfl rfl rfl (hts _ w2) (hts _ w7) (hts _ w5) w6 w3 hroom) ⟨jv_Pc_blind, jv_pre C0 hR hA hS (.ref b :: As)⟩ rfl hn hl.1 hst (lv_room hW) d (by rw [hRoom]; exact ⟨hc, hs⟩)) hA hS hA0 (fun r h1 hp H1 locs1 hR1 hA1 hS1 => kk r h1 hp H1 locs1 ls hl hR1 hA1 hS1)
  · exact jv_after (va_runIN (Ts := jv_T) (rest := rest) (As := As) ⟨hexec, hb9, rfl, hown, hts⟩ (hM C0.2.2.2.2.2.2.2.2.2.2.2 G H.size rfl) ⟨va_cnB (host := host) (ws' := jv_T) n hts (jv_goodIn (jv_code_all w1)) rfl rfl rfl (c10 _ w7) (hts _ w2) w3 hroom, w6, hts _ w5⟩ ⟨jv_Pc_blind, jv_pre C0 hR hA hS (.ref b :: As)⟩ rfl hn hl.1 hst (lv_room hW) d (by rw [hRoom]; exact ⟨hc, hs⟩)) hA hS hA0 (fun r h1 hp H1 locs1 hR1 hA1 hS1 => kk r h1 hp H1 locs1 ls hl hR1 hA1 hS1)
end JMAKE
end
section
section JNUM
variable {K : jT} {cc : ByteArray} {nL fr mc ms cells slots pc : Nat} {own : String} {lv : Nat → Option Value} {rest : List Value} {h : jH}
theorem jv_nar_o (n : String) (r : Option Nat) : narrow (.object n) (va_rf r) = va_rf r := by cases r <;> rfl
theorem jv_fit_o (n : String) (r : Option Nat) : fits (.object n) (va_rf r) = true := by cases r <;> rfl
theorem jv_nar_a (n : FieldType) (r : Option Nat) : narrow (.array n) (va_rf r) = va_rf r := by cases r <;> rfl
theorem jv_fit_a (n : FieldType) (r : Option Nat) : fits (.array n) (va_rf r) = true := by cases r <;> rfl
theorem J_niadd (C : JC K cc nL own fr mc ms) {a b : Nat} (d : decode cc pc = .ok (.iadd, 1)) (k : J K cells slots (pc + 1) lv (.int (nI (a + b)) :: rest) h) : J K cells slots pc lv (.int (nI b) :: .int (nI a) :: rest) h := J_iadd C d (by rw [nI_add]; exact k)
theorem J_nimul (C : JC K cc nL own fr mc ms) {a b : Nat} (d : decode cc pc = .ok (.imul, 1)) (k : J K cells slots (pc + 1) lv (.int (nI (a * b)) :: rest) h) : J K cells slots pc lv (.int (nI b) :: .int (nI a) :: rest) h := J_imul C d (by rw [pk_mul]; exact k)
theorem J_nisub (C : JC K cc nL own fr mc ms) {a b : Nat} (hb : b ≤ a) (d : decode cc pc = .ok (.isub, 1)) (k : J K cells slots (pc + 1) lv (.int (nI (a - b)) :: rest) h) : J K cells slots pc lv (.int (nI b) :: .int (nI a) :: rest) h := J_isub C d (by rw [pk_sub hb]; exact k)
theorem J_nidiv (C : JC K cc nL own fr mc ms) {a b : Nat} (ha : a < 2147483648) (h0 : 0 < b) (hb : b < 2147483648) (d : decode cc pc = .ok (.idiv, 1)) (k : J K cells slots (pc + 1) lv (.int (nI (a / b)) :: rest) h) : J K cells slots pc lv (.int (nI b) :: .int (nI a) :: rest) h := J_idiv C (nI_ne0 h0 hb) d (by rw [pk_div ha h0 hb]; exact k)
theorem J_niinc (C : JC K cc nL own fr mc ms) {i a b : Nat} (hv : lv i = some (.int (nI a))) (hn : i < nL) (d : decode cc pc = .ok (.iinc i (b : Int), 3)) (k : J K cells slots (pc + 3) (jv_u1 lv i (.int (nI (a + b)))) rest h) : J K cells slots pc lv rest h := by
  refine J_iinc C hv hn d ?_
  rw [show Int32.ofInt (b : Int) = nI b from rfl, nI_add]
  exact k
theorem J_ni2l (C : JC K cc nL own fr mc ms) {a : Nat} (ha : a < 2147483648) (d : decode cc pc = .ok (.i2l, 1)) (k : J K cells slots (pc + 1) lv (.long (lN a) :: rest) h) : J K cells slots pc lv (.int (nI a) :: rest) h := J_i2l C d (by rw [nI_l ha]; exact k)
theorem J_nicmp_lt (C : JC K cc nL own fr mc ms) {a b : Nat} (ha : a < 2147483648) (hb : b < 2147483648) {off : Int} (tgt : Nat) (ht : (pc : Int) + off = (tgt : Int)) (d : decode cc pc = .ok (.if_icmp .lt off, 3)) (kt : a < b → J K cells slots tgt lv rest h) (kf : b ≤ a → J K cells slots (pc + 3) lv rest h) : J K cells slots pc lv (.int (nI b) :: .int (nI a) :: rest) h :=
  J_icmp_lt C tgt ht d (fun z => kt ((nI_ltI ha hb).mp z)) (fun z => kf (Nat.not_lt.mp (fun w => z ((nI_ltI ha hb).mpr w))))
theorem J_nicmp_ge (C : JC K cc nL own fr mc ms) {a b : Nat} (ha : a < 2147483648) (hb : b < 2147483648) {off : Int} (tgt : Nat) (ht : (pc : Int) + off = (tgt : Int)) (d : decode cc pc = .ok (.if_icmp .ge off, 3)) (kt : b ≤ a → J K cells slots tgt lv rest h) (kf : a < b → J K cells slots (pc + 3) lv rest h) : J K cells slots pc lv (.int (nI b) :: .int (nI a) :: rest) h :=
  J_icmp_ge C tgt ht d (fun z => kt ((nI_leI hb ha).mp z)) (fun z => kf (Nat.not_le.mp (fun w => z ((nI_leI hb ha).mpr w))))
theorem J_nicmp_gt (C : JC K cc nL own fr mc ms) {a b : Nat} (ha : a < 2147483648) (hb : b < 2147483648) {off : Int} (tgt : Nat) (ht : (pc : Int) + off = (tgt : Int)) (d : decode cc pc = .ok (.if_icmp .gt off, 3)) (kt : b < a → J K cells slots tgt lv rest h) (kf : a ≤ b → J K cells slots (pc + 3) lv rest h) : J K cells slots pc lv (.int (nI b) :: .int (nI a) :: rest) h :=
  J_icmp_gt C tgt ht d (fun z => kt ((nI_ltI hb ha).mp z)) (fun z => kf (Nat.not_lt.mp (fun w => z ((nI_ltI hb ha).mpr w))))
theorem J_nicmp_le (C : JC K cc nL own fr mc ms) {a b : Nat} (ha : a < 2147483648) (hb : b < 2147483648) {off : Int} (tgt : Nat) (ht : (pc : Int) + off = (tgt : Int)) (d : decode cc pc = .ok (.if_icmp .le off, 3)) (kt : a ≤ b → J K cells slots tgt lv rest h) (kf : b < a → J K cells slots (pc + 3) lv rest h) : J K cells slots pc lv (.int (nI b) :: .int (nI a) :: rest) h :=
  J_icmp_le C tgt ht d (fun z => kt ((nI_leI ha hb).mp z)) (fun z => kf (Nat.not_le.mp (fun w => z ((nI_leI ha hb).mpr w))))
theorem J_nicmp_eq (C : JC K cc nL own fr mc ms) {a b : Nat} (ha : a < 2147483648) (hb : b < 2147483648) {off : Int} (tgt : Nat) (ht : (pc : Int) + off = (tgt : Int)) (d : decode cc pc = .ok (.if_icmp .eq off, 3)) (kt : a = b → J K cells slots tgt lv rest h) (kf : a ≠ b → J K cells slots (pc + 3) lv rest h) : J K cells slots pc lv (.int (nI b) :: .int (nI a) :: rest) h :=
  J_icmp_eq C tgt ht d (fun z => kt ((nI_eq ha hb).mp z)) (fun z => kf (fun w => z ((nI_eq ha hb).mpr w)))
theorem J_nicmp_ne (C : JC K cc nL own fr mc ms) {a b : Nat} (ha : a < 2147483648) (hb : b < 2147483648) {off : Int} (tgt : Nat) (ht : (pc : Int) + off = (tgt : Int)) (d : decode cc pc = .ok (.if_icmp .ne off, 3)) (kt : a ≠ b → J K cells slots tgt lv rest h) (kf : a = b → J K cells slots (pc + 3) lv rest h) : J K cells slots pc lv (.int (nI b) :: .int (nI a) :: rest) h :=
  J_icmp_ne C tgt ht d (fun z => kt (fun w => z ((nI_eq ha hb).mpr w))) (fun z => kf ((nI_eq ha hb).mp z))
theorem J_nif_lt (C : JC K cc nL own fr mc ms) {a : Nat} (ha : a < 2147483648) {off : Int} (tgt : Nat) (d : decode cc pc = .ok (.ifCond .lt off, 3)) (ht : (pc : Int) + off = (tgt : Int)) (kf : J K cells slots (pc + 3) lv rest h) : J K cells slots pc lv (.int (nI a) :: rest) h :=
  J_if_lt C tgt ht d (fun z => absurd z (nI_pos ha)) (fun _ => kf)
theorem J_nif_ge (C : JC K cc nL own fr mc ms) {a : Nat} (ha : a < 2147483648) {off : Int} (tgt : Nat) (ht : (pc : Int) + off = (tgt : Int)) (d : decode cc pc = .ok (.ifCond .ge off, 3)) (kt : J K cells slots tgt lv rest h) : J K cells slots pc lv (.int (nI a) :: rest) h :=
  J_if_ge C tgt ht d (fun _ => kt) (fun z => absurd (nI_pos' ha) z)
theorem J_nif_eq (C : JC K cc nL own fr mc ms) {a : Nat} (ha : a < 2147483648) {off : Int} (tgt : Nat) (ht : (pc : Int) + off = (tgt : Int)) (d : decode cc pc = .ok (.ifCond .eq off, 3)) (kt : a = 0 → J K cells slots tgt lv rest h) (kf : 0 < a → J K cells slots (pc + 3) lv rest h) : J K cells slots pc lv (.int (nI a) :: rest) h :=
  J_if_eq C tgt ht d (fun z => kt ((nI_eq ha (by decide)).mp (z.trans nI_0.symm))) (fun z => kf (Nat.pos_of_ne_zero (fun w => z (by rw [w]; exact nI_0))))
theorem J_nif_ne (C : JC K cc nL own fr mc ms) {a : Nat} (ha : a < 2147483648) {off : Int} (tgt : Nat) (ht : (pc : Int) + off = (tgt : Int)) (d : decode cc pc = .ok (.ifCond .ne off, 3)) (kt : 0 < a → J K cells slots tgt lv rest h) (kf : a = 0 → J K cells slots (pc + 3) lv rest h) : J K cells slots pc lv (.int (nI a) :: rest) h :=
  J_if_ne C tgt ht d (fun z => kt (Nat.pos_of_ne_zero (fun w => z (by rw [w]; exact nI_0)))) (fun z => kf ((nI_eq ha (by decide)).mp (z.trans nI_0.symm)))
theorem J_nif_gt (C : JC K cc nL own fr mc ms) {a : Nat} (ha : a < 2147483648) {off : Int} (tgt : Nat) (ht : (pc : Int) + off = (tgt : Int)) (d : decode cc pc = .ok (.ifCond .gt off, 3)) (kt : 0 < a → J K cells slots tgt lv rest h) (kf : a = 0 → J K cells slots (pc + 3) lv rest h) : J K cells slots pc lv (.int (nI a) :: rest) h := by
  refine J_if_gt C tgt ht d (fun z => kt (Nat.pos_of_ne_zero (fun w => ?_))) (fun z => kf (Nat.eq_zero_of_not_pos (fun w => z ?_)))
  · subst w; exact absurd z (by decide)
  · have := nI_lt w ha; rw [nI_0] at this; exact this
theorem J_nif_le (C : JC K cc nL own fr mc ms) {a : Nat} (ha : a < 2147483648) {off : Int} (tgt : Nat) (ht : (pc : Int) + off = (tgt : Int)) (d : decode cc pc = .ok (.ifCond .le off, 3)) (kt : a = 0 → J K cells slots tgt lv rest h) (kf : 0 < a → J K cells slots (pc + 3) lv rest h) : J K cells slots pc lv (.int (nI a) :: rest) h := by
  refine J_if_le C tgt ht d (fun z => kt (Nat.eq_zero_of_not_pos (fun w => ?_))) (fun z => kf (Nat.pos_of_ne_zero (fun w => z ?_)))
  · exact nI_nle w ha z
  · subst w; decide
/-- a boolean as the machine has it -/
def jv_b (p : Bool) : Int32 := if p then 1 else 0
theorem J_bif_eq (C : JC K cc nL own fr mc ms) {p : Bool} {off : Int} (tgt : Nat) (ht : (pc : Int) + off = (tgt : Int)) (d : decode cc pc = .ok (.ifCond .eq off, 3)) (kt : p = false → J K cells slots tgt lv rest h) (kf : p = true → J K cells slots (pc + 3) lv rest h) : J K cells slots pc lv (.int (jv_b p) :: rest) h := by
  refine J_if_eq C tgt ht d (fun z => kt ?_) (fun z => kf ?_) <;> cases p <;> first | rfl | exact absurd z (by decide)
theorem J_bif_ne (C : JC K cc nL own fr mc ms) {p : Bool} {off : Int} (tgt : Nat) (ht : (pc : Int) + off = (tgt : Int)) (d : decode cc pc = .ok (.ifCond .ne off, 3)) (kt : p = true → J K cells slots tgt lv rest h) (kf : p = false → J K cells slots (pc + 3) lv rest h) : J K cells slots pc lv (.int (jv_b p) :: rest) h := by
  refine J_if_ne C tgt ht d (fun z => kt ?_) (fun z => kf ?_) <;> cases p <;> first | rfl | exact absurd z (by decide)
theorem jv_b_or (p : Bool) : jv_b p = 0 ∨ jv_b p = 1 := by cases p <;> decide
theorem jv_nar_b (p : Bool) : narrow .boolean (.int (jv_b p)) = .int (jv_b p) := by cases p <;> rfl
theorem jv_fit_b (p : Bool) : fits .boolean (.int (jv_b p)) = true := by cases p <;> rfl
theorem jv_var_b (p : Bool) : vp_nar .boolean (jv_b p) = jv_b p := by cases p <;> rfl
end JNUM
end
section
section JLIST
variable {K : jT} {cc : ByteArray} {nL fr mc ms cells slots pc : Nat} {own : String} {lv : Nat → Option Value} {rest : List Value} {h : jH}
theorem J_dup_x1 (C : JC K cc nL own fr mc ms) {v w : Value} (hv : v.category = 1) (hw : w.category = 1) (d : decode cc pc = .ok (.dup_x1, 1)) (k : J K cells slots (pc + 1) lv (v :: w :: v :: rest) h) : J K cells slots pc lv (v :: w :: rest) h := by
  obtain ⟨p, l, e, R, s, m, args, below, meth, c, G, A, Q⟩ := K
  intro H locs ls hl hR hA hS
  exact lv_dup_x1 C.1 C.2.1 d hv hw (k H locs ls hl hR hA hS)
theorem J_getsE (C : JC K cc nL own fr mc ms) {i : Nat} (hw : Cond.fieldLink own i "java/util/ArrayList" "DEFAULTCAPACITY_EMPTY_ELEMENTDATA" "[Ljava/lang/Object;" ∈ jv_T) (d : decode cc pc = .ok (.getstatic i, 3)) (kk : J K cells slots (pc + 3) lv (va_rf (some (jv_lk K).2.1) :: rest) h) : J K cells slots pc lv rest h := by
  obtain ⟨p, l, e, R, s, m, args, below, meth, c, G, A, Q⟩ := K
  intro H locs ls hl hR hA hS
  obtain ⟨hexec, hb, c3, hown, hts, hK, hRoom, c8, hA0, c10, -⟩ := C
  exact va_gets hexec hb c8.2.2.1 hS hown (hts _ hw) (fun _ z => z) d (kk H locs ls hl hR hA hS)
theorem J_alenE (C : JC K cc nL own fr mc ms) {a : Nat} (ha : a = (jv_lk K).2.1) (d : decode cc pc = .ok (.arraylength, 1)) (kk : J K cells slots (pc + 1) lv (.int (nI 0) :: rest) h) : J K cells slots pc lv (.ref a :: rest) h := by
  obtain ⟨p, l, e, R, s, m, args, below, meth, c, G, A, Q⟩ := K
  intro H locs ls hl hR hA hS
  subst ha
  obtain ⟨hexec, hb, c3, hown, hts, hK, hRoom, c8, hA0, c10, -⟩ := C
  obtain ⟨cell, t1, t2, t3, t4, t5, t6, t7⟩ := c8.2.2.2.1.kept hS.2.1
  exact W.alen hexec hb t1 t2 t5 rfl rfl d (kk H locs ls hl hR hA hS)
theorem J_ldcM (C : JC K cc nL own fr mc ms) {i : Nat} (hw : Cond.classLink own i "[Ljava/lang/Object;" ∈ jv_T) (d : decode cc pc = .ok (.ldc i, 2)) (kk : J K cells slots (pc + 2) lv (va_rf (some (jv_lk K).2.2) :: rest) h) : J K cells slots pc lv rest h := by
  obtain ⟨p, l, e, R, s, m, args, below, meth, c, G, A, Q⟩ := K
  intro H locs ls hl hR hA hS
  obtain ⟨hexec, hb, c3, hown, hts, hK, hRoom, c8, hA0, c10, -⟩ := C
  exact va_ldcM hexec hb hown (hts _ hw) c8.2.2.2.2 d (kk H locs ls hl hR hA hS)
abbrev gcN : MethodName := ⟨"java/lang/Object", "getClass", "()Ljava/lang/Class;"⟩
theorem J_getC (C : JC K cc nL own fr mc ms) {i a n : Nat} {x : (Nat → Int32) ⊕ (Nat → Int64) ⊕ (Nat → UInt32) ⊕ (Nat → UInt64) ⊕ (Nat → Option Nat)} (hw : Cond.methodLink own i gcN ∈ jv_T) (hw2 : Cond.declares gcN ∈ jv_NL) (hw3 : Cond.selects "[Ljava/lang/Object;" gcN gcN ∈ jv_T) (hw4 : Cond.instanceMethod gcN ∈ jv_T) (hw5 : Cond.native gcN ∈ jv_T) (ha : h a = some (.inl (4, n, x))) (hfr : 1 ≤ fr) (hW : (rest.map fun v => v.category).sum ≤ 8) (d : decode cc pc = .ok (.invokevirtual i, 3)) (kk : J K cells slots (pc + 3) lv (va_rf (some (jv_lk K).2.2) :: rest) h) : J K cells slots pc lv (.ref a :: rest) h := by
  obtain ⟨p, l, e, R, s, m, args, below, meth, c, G, A, Q⟩ := K
  intro H locs ls hl hR hA hS
  obtain ⟨hexec, hb, c3, hown, hts, hK, hRoom, c8, hA0, c10, -⟩ := C
  have hcell := hR a _ ha
  refine va_getC hexec hb hl.1.symm hown (hts _ hw) (c10.use hw2) (hts _ hw3) (hts _ hw4) (hts _ hw5) c8.2.2.2.2 ⟨_, hcell, ?_, ?_⟩ (by rw [hRoom]; exact hfr) (by rw [hRoom]; show _ ≤ 50 * fr; omega) d (kk H locs ls hl hR hA hS)
  · rcases x with x | x | x | x | x <;> rfl
  · have h4 := (hK.2 4 (G.2.1 4, .object "java/lang/Object") rfl).2
    have h5 := va_nmO (nm := "[Ljava/lang/Object;") h4 (by decide)
    rcases x with x | x | x | x | x <;> exact h5
theorem J_copyq (C : JC K cc nL own fr mc ms) {i a0 a n0 n1 ci : Nat} {q9 : vw_C} {f g : Nat → Option Nat} (hlink : Cond.methodLink own i arraycopyName ∈ jv_T) (hnat : Cond.native arraycopyName ∈ jv_T) (hstat : Cond.static arraycopyName ∈ jv_T) (hini : Cond.initialized "java/lang/System" ∈ jv_T)
    (ha0 : h a0 = some (.inl (4, n0, .inr (.inr (.inr (.inr f)))))) (ha1 : h a = some (.inl (4, n1, .inr (.inr (.inr (.inr g)))))) (hc : jv_cl[ci]? = some q9) (hca : Cond.castable q9.1 "java/lang/Object" ∈ jv_NL) {sp dp n : Nat} (h1 : sp + n ≤ n0) (h2 : dp + n ≤ n1) (hn0 : n0 < 1000000) (hn1 : n1 < 1000000)
    (hel : ∀ j : Nat, j < n → ∀ y : Nat, f (sp + j) = some y → ∃ fs, h y = some (.inr (ci, fs))) (hfr : 1 ≤ fr) (hW : (rest.map fun v => v.category).sum ≤ 8) (d : decode cc pc = .ok (.invokestatic i, 3))
    (kk : J K cells slots (pc + 3) lv rest (jv_up h a (.inl (4, n1, .inr (.inr (.inr (.inr (va_cpy f g sp dp n)))))))) : J K cells slots pc lv (.int (nI n) :: .int (nI dp) :: .ref a :: .int (nI sp) :: .ref a0 :: rest) h := by
  obtain ⟨p, l, e, R, s, m, args, below, meth, c, G, A, Q⟩ := K
  intro H locs ls hl hR hA hS
  obtain ⟨hexec, hb, c3, hown, hts, hK, hRoom, c8, hA0, c10, -⟩ := C
  have cl1 : (nI sp).toNatClampNeg = sp := nI_clamp (by omega)
  have cl2 : (nI dp).toNatClampNeg = dp := nI_clamp (by omega)
  have cl3 : (nI n).toNatClampNeg = n := nI_clamp (by omega)
  have ti1 : (nI sp).toInt = (sp : Int) := nI_toInt (by omega)
  have ti2 : (nI dp).toInt = (dp : Int) := nI_toInt (by omega)
  have ti3 : (nI n).toInt = (n : Int) := nI_toInt (by omega)
  have hAa := hA a (by rw [ha1]; exact fun z => by cases z)
  intro T hT X
  have hc0 : H[a0]? = some (vp_cell (G.2.1 4) (n0, .inr (.inr (.inr (.inr f))))) := hR a0 _ ha0
  have hc1 : H[a]? = some (vp_cell (G.2.1 4) (n1, .inr (.inr (.inr (.inr g))))) := hR a _ ha1
  have ht : (jv_tys G)[4]? = some (G.2.1 4, .object "java/lang/Object") := rfl
  obtain ⟨-, k0, hk0, cm0, hkk0⟩ := (hK.2 4 _ ht).1 n0 (fun j => va_rf (f j))
  obtain ⟨-, k1, hk1, cm1, hkk1⟩ := (hK.2 4 _ ht).1 n1 (fun j => va_rf (g j))
  have hnw : nativeFrameWords "java/lang/System" "arraycopy" 5 ≤ 30 := by decide
  obtain ⟨vm', X', step⟩ := X.arraycopy hexec hown (hts _ hlink) (hts _ hnat) (hts _ hstat) (hts _ hini) (src := a0) (dst := a) (cs := vp_cell (G.2.1 4) (n0, .inr (.inr (.inr (.inr f))))) (cd := vp_cell (G.2.1 4) (n1, .inr (.inr (.inr (.inr g))))) (srcPos := nI sp) (destPos := nI dp) (n := nI n) (by rw [hT]; exact hc0) (by rw [hT]; exact hc1)
    (fun _ h => by cases h) (fun _ h => by cases h) (fun h => by cases h) (fun h => by cases h) hk0 hk1 hkk0 hkk1 rfl (nI_pos (by omega)) (nI_pos (by omega)) (nI_pos (by omega))
    (by rw [ti1, ti3]; show ¬ _ > ((arrV (G.2.1 4) n0 (fun j => va_rf (f j))).slots.size : Int); rw [arrV_size]; omega)
    (by rw [ti2, ti3]; show ¬ _ > ((arrV (G.2.1 4) n1 (fun j => va_rf (g j))).slots.size : Int); rw [arrV_size]; omega)
    (fun vm₁ hal j hj => by
      rw [cl3] at hj
      have e : (vp_cell (G.2.1 4) (n0, .inr (.inr (.inr (.inr f))))).slots.getD ((nI sp).toNatClampNeg + j) .null = va_rf (f (sp + j)) := by
        show (arrV (G.2.1 4) n0 (fun j => va_rf (f j))).slots.getD _ _ = _
        rw [cl1, Array.getD_eq_getD_getElem?, arrV_read _ _ (by omega)]
        rfl
      rw [e]
      cases hy : f (sp + j) with
      | none => exact ⟨rfl, trivial⟩
      | some y =>
        obtain ⟨fs, hfs⟩ := hel j hj y hy
        obtain ⟨cellV, g1, g2, g3⟩ := va_recv hK (hR.one hfs) hc (q0 := 0) rfl
        obtain ⟨kA, comp, r1, r2, r3, -⟩ := (hK.2 4 _ ht).2
        cases hk1.symm.trans r1
        cases hkk1.symm.trans r2
        obtain ⟨kC, hkC, -⟩ := Vm.findClass_spec g3
        obtain ⟨kE, hkE, -⟩ := Vm.findClass_spec r3
        obtain ⟨kC', hkC', -⟩ := hal.2.2 _ _ hkC
        obtain ⟨kE', hkE', -⟩ := hal.2.2 _ _ hkE
        refine ⟨rfl, cellV, (show T.heap[y]? = some cellV by rw [hT]; exact g1), (fun q h => by rw [h] at g2; cases g2), ⟨kC', hkC'⟩, ?_, ?_⟩
        · exact ⟨kE', hkE'⟩
        · show vm₁.assignable _ _ = true
          rw [hal.assignable]
          obtain ⟨c0, t1, f1, f2, f3⟩ := Cond.castable_spec (c10.use (args := args) hca)
          cases f1.symm.trans g3
          cases f2.symm.trans r3
          exact f3)
    (g := F0 m pc ls (.int (nI n) :: .int (nI dp) :: .ref a :: .int (nI sp) :: .ref a0 :: rest)) rfl hl.1 (rest := rest) rfl (by rw [hb]; exact d) (by rw [hRoom]; exact hfr) (by rw [hRoom]; show 2 * 0 + _ + (nativeFrameWords "java/lang/System" "arraycopy" 5 + 11) ≤ 50 * fr; omega)
  have e1 : copied (vp_cell (G.2.1 4) (n0, .inr (.inr (.inr (.inr f))))) (vp_cell (G.2.1 4) (n1, .inr (.inr (.inr (.inr g))))) (nI sp) (nI dp) (nI n) = vp_cell (G.2.1 4) (n1, .inr (.inr (.inr (.inr (va_cpy f g sp dp n))))) := by
    rw [vp_cell_q, vp_cell_q, vp_cell_q]
    show (arrV (G.2.1 4) n1 (fun j => va_rf (g j))).storeRun (nI dp).toNatClampNeg ((arrV (G.2.1 4) n0 (fun j => va_rf (f j))).stretch (nI sp).toNatClampNeg (nI n).toNatClampNeg) = _
    rw [cl1, cl2, cl3]
    exact va_copied (fun z => va_rf z) (G.2.1 4) (G.2.1 4) f g h1
  rw [e1] at X' step
  have hl9 : a < H.size := (Array.getElem?_eq_some_iff.mp hc1).1
  have hheap : ((T.setVm vm').setCell a (vp_cell (G.2.1 4) (n1, .inr (.inr (.inr (.inr (va_cpy f g sp dp n))))))).heap = H.setIfInBounds a (vp_cell (G.2.1 4) (n1, .inr (.inr (.inr (.inr (va_cpy f g sp dp n)))))) := by rw [← hT]; rfl
  have oq : ∀ q : Nat, q ≠ a → (H.setIfInBounds a (vp_cell (G.2.1 4) (n1, .inr (.inr (.inr (.inr (va_cpy f g sp dp n)))))))[q]? = H[q]? := fun q hq => by simp [Array.getElem?_setIfInBounds, Ne.symm hq]
  obtain ⟨t, a1, b1⟩ := kk _ _ ls hl (hR.put (show (H.setIfInBounds a _)[a]? = some _ by simp [Array.getElem?_setIfInBounds, hl9]) oq) (jv_dom hA hAa) ⟨by simp; exact hS.1, fun q g1 g2 => by
      rw [oq q (fun e => g2 (by rw [e]; exact hAa))]
      exact hS.2.1 q g1 g2, fun q hq => by
      rcases List.mem_append.mp hq with h | h
      · exact hS.2.2 q h
      · obtain ⟨z, -, hz⟩ := List.mem_map.mp h
        rw [← hz]
        exact hAa⟩ _ hheap X'
  exact ⟨t, step t a1, b1⟩
end JLIST
end
section
theorem ul_X0_0 : u_lay RX0 TX0 0 ∈ jv_T := jv_Tt 206 (by decide +kernel) (by decide +kernel)
theorem ul_X0_1 : u_lay RX0 TX0 1 ∈ jv_T := jv_Tt 208 (by decide +kernel) (by decide +kernel)
theorem ul_X0_2 : u_lay RX0 TX0 2 ∈ jv_T := jv_Tt 210 (by decide +kernel) (by decide +kernel)
theorem ul_X0_3 : u_lay RX0 TX0 3 ∈ jv_T := jv_Tt 212 (by decide +kernel) (by decide +kernel)
theorem ui_X0 : ∀ w ∈ u_ws RX0 TX0 4, w ∈ jv_T := by
  intro w hw
  obtain ⟨k, hk, rfl⟩ := List.mem_map.mp hw
  have hk := List.mem_range.mp hk
  match k, hk with
  | 0, _ => exact ul_X0_0
  | 1, _ => exact ul_X0_1
  | 2, _ => exact ul_X0_2
  | 3, _ => exact ul_X0_3
theorem ul_X1_0 : u_lay RX1 TX1 0 ∈ jv_T := jv_Tt 410 (by decide +kernel) (by decide +kernel)
theorem ul_X1_1 : u_lay RX1 TX1 1 ∈ jv_T := jv_Tt 412 (by decide +kernel) (by decide +kernel)
theorem ul_X1_2 : u_lay RX1 TX1 2 ∈ jv_T := jv_Tt 414 (by decide +kernel) (by decide +kernel)
theorem ul_X1_3 : u_lay RX1 TX1 3 ∈ jv_T := jv_Tt 416 (by decide +kernel) (by decide +kernel)
theorem ul_X1_4 : u_lay RX1 TX1 4 ∈ jv_T := jv_Tt 418 (by decide +kernel) (by decide +kernel)
theorem ul_X1_5 : u_lay RX1 TX1 5 ∈ jv_T := jv_Tt 420 (by decide +kernel) (by decide +kernel)
theorem ul_X1_6 : u_lay RX1 TX1 6 ∈ jv_T := jv_Tt 422 (by decide +kernel) (by decide +kernel)
theorem ul_X1_7 : u_lay RX1 TX1 7 ∈ jv_T := jv_Tt 424 (by decide +kernel) (by decide +kernel)
theorem ui_X1 : ∀ w ∈ u_ws RX1 TX1 8, w ∈ jv_T := by
  intro w hw
  obtain ⟨k, hk, rfl⟩ := List.mem_map.mp hw
  have hk := List.mem_range.mp hk
  match k, hk with
  | 0, _ => exact ul_X1_0
  | 1, _ => exact ul_X1_1
  | 2, _ => exact ul_X1_2
  | 3, _ => exact ul_X1_3
  | 4, _ => exact ul_X1_4
  | 5, _ => exact ul_X1_5
  | 6, _ => exact ul_X1_6
  | 7, _ => exact ul_X1_7
theorem ul_X3_0 : u_lay RX3 TX3 0 ∈ jv_T := jv_Tt 99 (by decide +kernel) (by decide +kernel)
theorem ul_X3_1 : u_lay RX3 TX3 1 ∈ jv_T := jv_Tt 101 (by decide +kernel) (by decide +kernel)
theorem ui_X3 : ∀ w ∈ u_ws RX3 TX3 2, w ∈ jv_T := by
  intro w hw
  obtain ⟨k, hk, rfl⟩ := List.mem_map.mp hw
  have hk := List.mem_range.mp hk
  match k, hk with
  | 0, _ => exact ul_X3_0
  | 1, _ => exact ul_X3_1
theorem ul_X4_0 : u_lay RX4 TX4 0 ∈ jv_T := jv_Tt 111 (by decide +kernel) (by decide +kernel)
theorem ul_X4_1 : u_lay RX4 TX4 1 ∈ jv_T := jv_Tt 113 (by decide +kernel) (by decide +kernel)
theorem ul_X4_2 : u_lay RX4 TX4 2 ∈ jv_T := jv_Tt 115 (by decide +kernel) (by decide +kernel)
theorem ul_X4_3 : u_lay RX4 TX4 3 ∈ jv_T := jv_Tt 117 (by decide +kernel) (by decide +kernel)
theorem ui_X4 : ∀ w ∈ u_ws RX4 TX4 4, w ∈ jv_T := by
  intro w hw
  obtain ⟨k, hk, rfl⟩ := List.mem_map.mp hw
  have hk := List.mem_range.mp hk
  match k, hk with
  | 0, _ => exact ul_X4_0
  | 1, _ => exact ul_X4_1
  | 2, _ => exact ul_X4_2
  | 3, _ => exact ul_X4_3
theorem ul_X5_0 : u_lay RX5 TX5 0 ∈ jv_T := jv_Tt 885 (by decide +kernel) (by decide +kernel)
theorem ul_X5_1 : u_lay RX5 TX5 1 ∈ jv_T := jv_Tt 887 (by decide +kernel) (by decide +kernel)
theorem ul_X5_2 : u_lay RX5 TX5 2 ∈ jv_T := jv_Tt 889 (by decide +kernel) (by decide +kernel)
theorem ul_X5_3 : u_lay RX5 TX5 3 ∈ jv_T := jv_Tt 891 (by decide +kernel) (by decide +kernel)
theorem ul_X5_4 : u_lay RX5 TX5 4 ∈ jv_T := jv_Tt 893 (by decide +kernel) (by decide +kernel)
theorem ul_X5_5 : u_lay RX5 TX5 5 ∈ jv_T := jv_Tt 895 (by decide +kernel) (by decide +kernel)
theorem ui_X5 : ∀ w ∈ u_ws RX5 TX5 6, w ∈ jv_T := by
  intro w hw
  obtain ⟨k, hk, rfl⟩ := List.mem_map.mp hw
  have hk := List.mem_range.mp hk
  match k, hk with
  | 0, _ => exact ul_X5_0
  | 1, _ => exact ul_X5_1
  | 2, _ => exact ul_X5_2
  | 3, _ => exact ul_X5_3
  | 4, _ => exact ul_X5_4
  | 5, _ => exact ul_X5_5
theorem ul_X6_0 : u_lay RX6 TX6 0 ∈ jv_T := jv_Tt 169 (by decide +kernel) (by decide +kernel)
theorem ul_X6_1 : u_lay RX6 TX6 1 ∈ jv_T := jv_Tt 171 (by decide +kernel) (by decide +kernel)
theorem ul_X6_2 : u_lay RX6 TX6 2 ∈ jv_T := jv_Tt 173 (by decide +kernel) (by decide +kernel)
theorem ul_X6_3 : u_lay RX6 TX6 3 ∈ jv_T := jv_Tt 175 (by decide +kernel) (by decide +kernel)
theorem ul_X6_4 : u_lay RX6 TX6 4 ∈ jv_T := jv_Tt 177 (by decide +kernel) (by decide +kernel)
theorem ul_X6_5 : u_lay RX6 TX6 5 ∈ jv_T := jv_Tt 179 (by decide +kernel) (by decide +kernel)
theorem ui_X6 : ∀ w ∈ u_ws RX6 TX6 6, w ∈ jv_T := by
  intro w hw
  obtain ⟨k, hk, rfl⟩ := List.mem_map.mp hw
  have hk := List.mem_range.mp hk
  match k, hk with
  | 0, _ => exact ul_X6_0
  | 1, _ => exact ul_X6_1
  | 2, _ => exact ul_X6_2
  | 3, _ => exact ul_X6_3
  | 4, _ => exact ul_X6_4
  | 5, _ => exact ul_X6_5
theorem ul_X7_0 : u_lay RX7 TX7 0 ∈ jv_T := jv_Tt 190 (by decide +kernel) (by decide +kernel)
theorem ul_X7_1 : u_lay RX7 TX7 1 ∈ jv_T := jv_Tt 192 (by decide +kernel) (by decide +kernel)
theorem ui_X7 : ∀ w ∈ u_ws RX7 TX7 2, w ∈ jv_T := by
  intro w hw
  obtain ⟨k, hk, rfl⟩ := List.mem_map.mp hw
  have hk := List.mem_range.mp hk
  match k, hk with
  | 0, _ => exact ul_X7_0
  | 1, _ => exact ul_X7_1
theorem ul_X8_0 : u_lay RX8 TX8 0 ∈ jv_T := jv_Tt 51 (by decide +kernel) (by decide +kernel)
theorem ul_X8_1 : u_lay RX8 TX8 1 ∈ jv_T := jv_Tt 53 (by decide +kernel) (by decide +kernel)
theorem ui_X8 : ∀ w ∈ u_ws RX8 TX8 2, w ∈ jv_T := by
  intro w hw
  obtain ⟨k, hk, rfl⟩ := List.mem_map.mp hw
  have hk := List.mem_range.mp hk
  match k, hk with
  | 0, _ => exact ul_X8_0
  | 1, _ => exact ul_X8_1
theorem ul_X9_0 : u_lay RX9 TX9 0 ∈ jv_T := jv_Tt 147 (by decide +kernel) (by decide +kernel)
theorem ul_X9_1 : u_lay RX9 TX9 1 ∈ jv_T := jv_Tt 149 (by decide +kernel) (by decide +kernel)
theorem ul_X9_2 : u_lay RX9 TX9 2 ∈ jv_T := jv_Tt 151 (by decide +kernel) (by decide +kernel)
theorem ul_X9_3 : u_lay RX9 TX9 3 ∈ jv_T := jv_Tt 153 (by decide +kernel) (by decide +kernel)
theorem ul_X9_4 : u_lay RX9 TX9 4 ∈ jv_T := jv_Tt 155 (by decide +kernel) (by decide +kernel)
theorem ul_X9_5 : u_lay RX9 TX9 5 ∈ jv_T := jv_Tt 157 (by decide +kernel) (by decide +kernel)
theorem ui_X9 : ∀ w ∈ u_ws RX9 TX9 6, w ∈ jv_T := by
  intro w hw
  obtain ⟨k, hk, rfl⟩ := List.mem_map.mp hw
  have hk := List.mem_range.mp hk
  match k, hk with
  | 0, _ => exact ul_X9_0
  | 1, _ => exact ul_X9_1
  | 2, _ => exact ul_X9_2
  | 3, _ => exact ul_X9_3
  | 4, _ => exact ul_X9_4
  | 5, _ => exact ul_X9_5
theorem ul_X10_0 : u_lay RX10 TX10 0 ∈ jv_T := jv_Tt 580 (by decide +kernel) (by decide +kernel)
theorem ul_X10_1 : u_lay RX10 TX10 1 ∈ jv_T := jv_Tt 582 (by decide +kernel) (by decide +kernel)
theorem ul_X10_2 : u_lay RX10 TX10 2 ∈ jv_T := jv_Tt 584 (by decide +kernel) (by decide +kernel)
theorem ul_X10_3 : u_lay RX10 TX10 3 ∈ jv_T := jv_Tt 586 (by decide +kernel) (by decide +kernel)
theorem ul_X10_4 : u_lay RX10 TX10 4 ∈ jv_T := jv_Tt 588 (by decide +kernel) (by decide +kernel)
theorem ui_X10 : ∀ w ∈ u_ws RX10 TX10 5, w ∈ jv_T := by
  intro w hw
  obtain ⟨k, hk, rfl⟩ := List.mem_map.mp hw
  have hk := List.mem_range.mp hk
  match k, hk with
  | 0, _ => exact ul_X10_0
  | 1, _ => exact ul_X10_1
  | 2, _ => exact ul_X10_2
  | 3, _ => exact ul_X10_3
  | 4, _ => exact ul_X10_4
theorem ul_X11_0 : u_lay RX11 TX11 0 ∈ jv_T := jv_Tt 221 (by decide +kernel) (by decide +kernel)
theorem ul_X11_1 : u_lay RX11 TX11 1 ∈ jv_T := jv_Tt 223 (by decide +kernel) (by decide +kernel)
theorem ul_X11_2 : u_lay RX11 TX11 2 ∈ jv_T := jv_Tt 225 (by decide +kernel) (by decide +kernel)
theorem ul_X11_3 : u_lay RX11 TX11 3 ∈ jv_T := jv_Tt 227 (by decide +kernel) (by decide +kernel)
theorem ul_X11_4 : u_lay RX11 TX11 4 ∈ jv_T := jv_Tt 229 (by decide +kernel) (by decide +kernel)
theorem ui_X11 : ∀ w ∈ u_ws RX11 TX11 5, w ∈ jv_T := by
  intro w hw
  obtain ⟨k, hk, rfl⟩ := List.mem_map.mp hw
  have hk := List.mem_range.mp hk
  match k, hk with
  | 0, _ => exact ul_X11_0
  | 1, _ => exact ul_X11_1
  | 2, _ => exact ul_X11_2
  | 3, _ => exact ul_X11_3
  | 4, _ => exact ul_X11_4
theorem ul_X12_0 : u_lay RX12 TX12 0 ∈ jv_T := jv_Tt 1149 (by decide +kernel) (by decide +kernel)
theorem ul_X12_1 : u_lay RX12 TX12 1 ∈ jv_T := jv_Tt 1151 (by decide +kernel) (by decide +kernel)
theorem ul_X12_2 : u_lay RX12 TX12 2 ∈ jv_T := jv_Tt 1153 (by decide +kernel) (by decide +kernel)
theorem ul_X12_3 : u_lay RX12 TX12 3 ∈ jv_T := jv_Tt 1155 (by decide +kernel) (by decide +kernel)
theorem ul_X12_4 : u_lay RX12 TX12 4 ∈ jv_T := jv_Tt 1157 (by decide +kernel) (by decide +kernel)
theorem ul_X12_5 : u_lay RX12 TX12 5 ∈ jv_T := jv_Tt 1159 (by decide +kernel) (by decide +kernel)
theorem ul_X12_6 : u_lay RX12 TX12 6 ∈ jv_T := jv_Tt 1161 (by decide +kernel) (by decide +kernel)
theorem ul_X12_7 : u_lay RX12 TX12 7 ∈ jv_T := jv_Tt 1163 (by decide +kernel) (by decide +kernel)
theorem ul_X12_8 : u_lay RX12 TX12 8 ∈ jv_T := jv_Tt 1165 (by decide +kernel) (by decide +kernel)
theorem ul_X12_9 : u_lay RX12 TX12 9 ∈ jv_T := jv_Tt 1167 (by decide +kernel) (by decide +kernel)
theorem ul_X12_10 : u_lay RX12 TX12 10 ∈ jv_T := jv_Tt 1169 (by decide +kernel) (by decide +kernel)
theorem ul_X12_11 : u_lay RX12 TX12 11 ∈ jv_T := jv_Tt 1171 (by decide +kernel) (by decide +kernel)
theorem ul_X12_12 : u_lay RX12 TX12 12 ∈ jv_T := jv_Tt 1173 (by decide +kernel) (by decide +kernel)
theorem ul_X12_13 : u_lay RX12 TX12 13 ∈ jv_T := jv_Tt 1175 (by decide +kernel) (by decide +kernel)
theorem ul_X12_14 : u_lay RX12 TX12 14 ∈ jv_T := jv_Tt 1177 (by decide +kernel) (by decide +kernel)
theorem ul_X12_15 : u_lay RX12 TX12 15 ∈ jv_T := jv_Tt 1179 (by decide +kernel) (by decide +kernel)
theorem ul_X12_16 : u_lay RX12 TX12 16 ∈ jv_T := jv_Tt 1181 (by decide +kernel) (by decide +kernel)
theorem ul_X12_17 : u_lay RX12 TX12 17 ∈ jv_T := jv_Tt 1183 (by decide +kernel) (by decide +kernel)
theorem ul_X12_18 : u_lay RX12 TX12 18 ∈ jv_T := jv_Tt 1185 (by decide +kernel) (by decide +kernel)
theorem ul_X12_19 : u_lay RX12 TX12 19 ∈ jv_T := jv_Tt 1187 (by decide +kernel) (by decide +kernel)
theorem ul_X12_20 : u_lay RX12 TX12 20 ∈ jv_T := jv_Tt 1189 (by decide +kernel) (by decide +kernel)
theorem ul_X12_21 : u_lay RX12 TX12 21 ∈ jv_T := jv_Tt 1191 (by decide +kernel) (by decide +kernel)
theorem ul_X12_22 : u_lay RX12 TX12 22 ∈ jv_T := jv_Tt 1193 (by decide +kernel) (by decide +kernel)
theorem ul_X12_23 : u_lay RX12 TX12 23 ∈ jv_T := jv_Tt 1195 (by decide +kernel) (by decide +kernel)
theorem ul_X12_24 : u_lay RX12 TX12 24 ∈ jv_T := jv_Tt 1197 (by decide +kernel) (by decide +kernel)
theorem ul_X12_25 : u_lay RX12 TX12 25 ∈ jv_T := jv_Tt 1199 (by decide +kernel) (by decide +kernel)
theorem ul_X12_26 : u_lay RX12 TX12 26 ∈ jv_T := jv_Tt 1201 (by decide +kernel) (by decide +kernel)
theorem ua_X12 : ∀ k, k < 27 → u_lay RX12 TX12 k ∈ jv_T := lt_s (lt_s (lt_s (lt_s (lt_s (lt_s (lt_s (lt_s (lt_s (lt_s (lt_s (lt_s (lt_s (lt_s (lt_s (lt_s (lt_s (lt_s (lt_s (lt_s (lt_s (lt_s (lt_s (lt_s (lt_s (lt_s (lt_s (lt_0) ul_X12_0) ul_X12_1) ul_X12_2) ul_X12_3) ul_X12_4) ul_X12_5) ul_X12_6) ul_X12_7) ul_X12_8) ul_X12_9) ul_X12_10) ul_X12_11) ul_X12_12) ul_X12_13) ul_X12_14) ul_X12_15) ul_X12_16) ul_X12_17) ul_X12_18) ul_X12_19) ul_X12_20) ul_X12_21) ul_X12_22) ul_X12_23) ul_X12_24) ul_X12_25) ul_X12_26
theorem ui_X12 : ∀ w ∈ u_ws RX12 TX12 27, w ∈ jv_T := by
  intro w hw
  obtain ⟨k, hk, rfl⟩ := List.mem_map.mp hw
  exact ua_X12 k (List.mem_range.mp hk)
theorem ul_Jx4a65c_0 : u_lay RJx4a65c TJx4a65c 0 ∈ jv_T := jv_Tt 86 (by decide +kernel) (by decide +kernel)
theorem ul_Jx4a65c_1 : u_lay RJx4a65c TJx4a65c 1 ∈ jv_T := jv_Tt 82 (by decide +kernel) (by decide +kernel)
theorem ul_Jx4a65c_2 : u_lay RJx4a65c TJx4a65c 2 ∈ jv_T := jv_Tt 84 (by decide +kernel) (by decide +kernel)
theorem ui_Jx4a65c : ∀ w ∈ u_ws RJx4a65c TJx4a65c 3, w ∈ jv_T := by
  intro w hw
  obtain ⟨k, hk, rfl⟩ := List.mem_map.mp hw
  have hk := List.mem_range.mp hk
  match k, hk with
  | 0, _ => exact ul_Jx4a65c_0
  | 1, _ => exact ul_Jx4a65c_1
  | 2, _ => exact ul_Jx4a65c_2
theorem fl_X11_12 : FL RX11 12 10 0 (.object "RankedSearch$Tape") true := ⟨(RX11, TX11, 5), "RankedSearch", rfl, by decide, Or.inl rfl, Or.inl (jv_Tt 216 (by decide +kernel) rfl), by decide +kernel, rfl, ui_X11, ⟨tyX11, tyX11_ok⟩, nmX11⟩
theorem fw_X11_12 : Cond.fieldLink RX11 12 (TX11 0).1 (TX11 0).2.1 (TX11 0).2.2.1 ∈ jv_T := jv_Tt 216 (by decide +kernel) rfl
theorem fl_X11_19 : FL RX11 19 10 1 (.object "RankedSearch$Library") true := ⟨(RX11, TX11, 5), "RankedSearch", rfl, by decide, Or.inl rfl, Or.inl (jv_Tt 217 (by decide +kernel) rfl), by decide +kernel, rfl, ui_X11, ⟨tyX11, tyX11_ok⟩, nmX11⟩
theorem fw_X11_19 : Cond.fieldLink RX11 19 (TX11 1).1 (TX11 1).2.1 (TX11 1).2.2.1 ∈ jv_T := jv_Tt 217 (by decide +kernel) rfl
theorem fl_X11_26 : FL RX11 26 10 2 (.object "RankedSearch$Query") true := ⟨(RX11, TX11, 5), "RankedSearch", rfl, by decide, Or.inl rfl, Or.inl (jv_Tt 218 (by decide +kernel) rfl), by decide +kernel, rfl, ui_X11, ⟨tyX11, tyX11_ok⟩, nmX11⟩
theorem fw_X11_26 : Cond.fieldLink RX11 26 (TX11 2).1 (TX11 2).2.1 (TX11 2).2.2.1 ∈ jv_T := jv_Tt 218 (by decide +kernel) rfl
theorem fl_X11_33 : FL RX11 33 10 3 (.object "RankedSearch$Search") true := ⟨(RX11, TX11, 5), "RankedSearch", rfl, by decide, Or.inl rfl, Or.inl (jv_Tt 219 (by decide +kernel) rfl), by decide +kernel, rfl, ui_X11, ⟨tyX11, tyX11_ok⟩, nmX11⟩
theorem fw_X11_33 : Cond.fieldLink RX11 33 (TX11 3).1 (TX11 3).2.1 (TX11 3).2.2.1 ∈ jv_T := jv_Tt 219 (by decide +kernel) rfl
theorem fl_X11_40 : FL RX11 40 10 4 (.object "RankedSearch$Best") true := ⟨(RX11, TX11, 5), "RankedSearch", rfl, by decide, Or.inl rfl, Or.inl (jv_Tt 220 (by decide +kernel) rfl), by decide +kernel, rfl, ui_X11, ⟨tyX11, tyX11_ok⟩, nmX11⟩
theorem fw_X11_40 : Cond.fieldLink RX11 40 (TX11 4).1 (TX11 4).2.1 (TX11 4).2.2.1 ∈ jv_T := jv_Tt 220 (by decide +kernel) rfl
theorem fl_X0_9 : FL RX0 9 0 0 (.array .int) true := ⟨(RX0, TX0, 4), "RankedSearch$Best", rfl, by decide, Or.inl rfl, Or.inl (jv_Tt 201 (by decide +kernel) rfl), by decide +kernel, rfl, ui_X0, ⟨tyX0, tyX0_ok⟩, nmX0⟩
theorem fw_X0_9 : Cond.fieldLink RX0 9 (TX0 0).1 (TX0 0).2.1 (TX0 0).2.2.1 ∈ jv_T := jv_Tt 201 (by decide +kernel) rfl
theorem fl_X0_15 : FL RX0 15 0 1 (.array .int) true := ⟨(RX0, TX0, 4), "RankedSearch$Best", rfl, by decide, Or.inl rfl, Or.inl (jv_Tt 202 (by decide +kernel) rfl), by decide +kernel, rfl, ui_X0, ⟨tyX0, tyX0_ok⟩, nmX0⟩
theorem fw_X0_15 : Cond.fieldLink RX0 15 (TX0 1).1 (TX0 1).2.1 (TX0 1).2.2.1 ∈ jv_T := jv_Tt 202 (by decide +kernel) rfl
theorem fl_X0_27 : FL RX0 27 0 2 .int false := ⟨(RX0, TX0, 4), "RankedSearch$Best", rfl, by decide, Or.inl rfl, Or.inl (jv_Tt 203 (by decide +kernel) rfl), by decide +kernel, rfl, ui_X0, ⟨tyX0, tyX0_ok⟩, nmX0⟩
theorem fl_X0_31 : FL RX0 31 0 3 .int false := ⟨(RX0, TX0, 4), "RankedSearch$Best", rfl, by decide, Or.inl rfl, Or.inl (jv_Tt 204 (by decide +kernel) rfl), by decide +kernel, rfl, ui_X0, ⟨tyX0, tyX0_ok⟩, nmX0⟩
theorem fl_X1_7 : FL RX1 7 1 0 .int true := ⟨(RX1, TX1, 8), "RankedSearch$Document", rfl, by decide, Or.inl rfl, Or.inl (jv_Tt 397 (by decide +kernel) rfl), by decide +kernel, rfl, ui_X1, ⟨tyX1, tyX1_ok⟩, nmX1⟩
theorem fw_X1_7 : Cond.fieldLink RX1 7 (TX1 0).1 (TX1 0).2.1 (TX1 0).2.2.1 ∈ jv_T := jv_Tt 397 (by decide +kernel) rfl
theorem fl_X3_12 : FL RX3 12 2 0 (.object "java/util/ArrayList") true := ⟨(RX3, TX3, 2), "RankedSearch$Lexicon", rfl, by decide, Or.inl rfl, Or.inl (jv_Tt 97 (by decide +kernel) rfl), by decide +kernel, rfl, ui_X3, ⟨tyX3, tyX3_ok⟩, nmX3⟩
theorem fw_X3_12 : Cond.fieldLink RX3 12 (TX3 0).1 (TX3 0).2.1 (TX3 0).2.2.1 ∈ jv_T := jv_Tt 97 (by decide +kernel) rfl
theorem fl_X3_55 : FL RX3 55 2 1 (.object "RankedSearch$Word") false := ⟨(RX3, TX3, 2), "RankedSearch$Lexicon", rfl, by decide, Or.inl rfl, Or.inl (jv_Tt 98 (by decide +kernel) rfl), by decide +kernel, rfl, ui_X3, ⟨tyX3, tyX3_ok⟩, nmX3⟩
theorem fl_X4_12 : FL RX4 12 3 0 (.object "java/util/ArrayList") true := ⟨(RX4, TX4, 4), "RankedSearch$Library", rfl, by decide, Or.inl rfl, Or.inl (jv_Tt 104 (by decide +kernel) rfl), by decide +kernel, rfl, ui_X4, ⟨tyX4, tyX4_ok⟩, nmX4⟩
theorem fw_X4_12 : Cond.fieldLink RX4 12 (TX4 0).1 (TX4 0).2.1 (TX4 0).2.2.1 ∈ jv_T := jv_Tt 104 (by decide +kernel) rfl
theorem fl_X4_21 : FL RX4 21 3 1 (.object "RankedSearch$Lexicon") true := ⟨(RX4, TX4, 4), "RankedSearch$Library", rfl, by decide, Or.inl rfl, Or.inl (jv_Tt 105 (by decide +kernel) rfl), by decide +kernel, rfl, ui_X4, ⟨tyX4, tyX4_ok⟩, nmX4⟩
theorem fw_X4_21 : Cond.fieldLink RX4 21 (TX4 1).1 (TX4 1).2.1 (TX4 1).2.2.1 ∈ jv_T := jv_Tt 105 (by decide +kernel) rfl
theorem fl_X4_114 : FL RX4 114 3 2 .int false := ⟨(RX4, TX4, 4), "RankedSearch$Library", rfl, by decide, Or.inl rfl, Or.inl (jv_Tt 109 (by decide +kernel) rfl), by decide +kernel, rfl, ui_X4, ⟨tyX4, tyX4_ok⟩, nmX4⟩
theorem fl_X4_143 : FL RX4 143 3 3 (.object "RankedSearch$Posting") false := ⟨(RX4, TX4, 4), "RankedSearch$Library", rfl, by decide, Or.inl rfl, Or.inl (jv_Tt 110 (by decide +kernel) rfl), by decide +kernel, rfl, ui_X4, ⟨tyX4, tyX4_ok⟩, nmX4⟩
theorem fl_X5_7 : FL RX5 7 4 1 (.object "RankedSearch$Document") false := ⟨(RX5, TX5, 6), "RankedSearch$Posting", rfl, by decide, Or.inl rfl, Or.inl (jv_Tt 873 (by decide +kernel) rfl), by decide +kernel, rfl, ui_X5, ⟨tyX5, tyX5_ok⟩, nmX5⟩
theorem fl_X5_13 : FL RX5 13 4 2 .int false := ⟨(RX5, TX5, 6), "RankedSearch$Posting", rfl, by decide, Or.inl rfl, Or.inl (jv_Tt 876 (by decide +kernel) rfl), by decide +kernel, rfl, ui_X5, ⟨tyX5, tyX5_ok⟩, nmX5⟩
theorem fl_X6_11 : FL RX6 11 5 0 (.array (.object "RankedSearch$Term")) true := ⟨(RX6, TX6, 6), "RankedSearch$Query", rfl, by decide, Or.inl rfl, Or.inl (jv_Tt 160 (by decide +kernel) rfl), by decide +kernel, rfl, ui_X6, ⟨tyX6, tyX6_ok⟩, nmX6⟩
theorem fw_X6_11 : Cond.fieldLink RX6 11 (TX6 0).1 (TX6 0).2.1 (TX6 0).2.2.1 ∈ jv_T := jv_Tt 160 (by decide +kernel) rfl
theorem fl_X6_18 : FL RX6 18 5 2 (.object "RankedSearch$Term") false := ⟨(RX6, TX6, 6), "RankedSearch$Query", rfl, by decide, Or.inl rfl, Or.inl (jv_Tt 163 (by decide +kernel) rfl), by decide +kernel, rfl, ui_X6, ⟨tyX6, tyX6_ok⟩, nmX6⟩
theorem fl_X6_22 : FL RX6 22 5 4 .int false := ⟨(RX6, TX6, 6), "RankedSearch$Query", rfl, by decide, Or.inl rfl, Or.inl (jv_Tt 165 (by decide +kernel) rfl), by decide +kernel, rfl, ui_X6, ⟨tyX6, tyX6_ok⟩, nmX6⟩
theorem fl_X6_26 : FL RX6 26 5 5 .int false := ⟨(RX6, TX6, 6), "RankedSearch$Query", rfl, by decide, Or.inl rfl, Or.inl (jv_Tt 167 (by decide +kernel) rfl), by decide +kernel, rfl, ui_X6, ⟨tyX6, tyX6_ok⟩, nmX6⟩
theorem fl_X6_29 : FL RX6 29 5 1 .int false := ⟨(RX6, TX6, 6), "RankedSearch$Query", rfl, by decide, Or.inl rfl, Or.inl (jv_Tt 161 (by decide +kernel) rfl), by decide +kernel, rfl, ui_X6, ⟨tyX6, tyX6_ok⟩, nmX6⟩
theorem fl_X6_32 : FL RX6 32 5 3 .int false := ⟨(RX6, TX6, 6), "RankedSearch$Query", rfl, by decide, Or.inl rfl, Or.inl (jv_Tt 164 (by decide +kernel) rfl), by decide +kernel, rfl, ui_X6, ⟨tyX6, tyX6_ok⟩, nmX6⟩
theorem fl_X7_9 : FL RX7 9 6 1 .int false := ⟨(RX7, TX7, 2), "RankedSearch$Search", rfl, by decide, Or.inl rfl, Or.inl (jv_Tt 189 (by decide +kernel) rfl), by decide +kernel, rfl, ui_X7, ⟨tyX7, tyX7_ok⟩, nmX7⟩
theorem fl_X7_138 : FL RX7 138 6 0 (.object "RankedSearch$Document") false := ⟨(RX7, TX7, 2), "RankedSearch$Search", rfl, by decide, Or.inl rfl, Or.inl (jv_Tt 188 (by decide +kernel) rfl), by decide +kernel, rfl, ui_X7, ⟨tyX7, tyX7_ok⟩, nmX7⟩
theorem fl_X8_9 : FL RX8 9 7 0 (.array .byte) true := ⟨(RX8, TX8, 2), "RankedSearch$Tape", rfl, by decide, Or.inl rfl, Or.inl (jv_Tt 49 (by decide +kernel) rfl), by decide +kernel, rfl, ui_X8, ⟨tyX8, tyX8_ok⟩, nmX8⟩
theorem fw_X8_9 : Cond.fieldLink RX8 9 (TX8 0).1 (TX8 0).2.1 (TX8 0).2.2.1 ∈ jv_T := jv_Tt 49 (by decide +kernel) rfl
theorem fl_X8_15 : FL RX8 15 7 1 .int false := ⟨(RX8, TX8, 2), "RankedSearch$Tape", rfl, by decide, Or.inl rfl, Or.inl (jv_Tt 50 (by decide +kernel) rfl), by decide +kernel, rfl, ui_X8, ⟨tyX8, tyX8_ok⟩, nmX8⟩
theorem fl_X9_9 : FL RX9 9 8 0 .boolean false := ⟨(RX9, TX9, 6), "RankedSearch$Term", rfl, by decide, Or.inl rfl, Or.inl (jv_Tt 133 (by decide +kernel) rfl), by decide +kernel, rfl, ui_X9, ⟨tyX9, tyX9_ok⟩, nmX9⟩
theorem fl_X9_15 : FL RX9 15 8 1 .boolean false := ⟨(RX9, TX9, 6), "RankedSearch$Term", rfl, by decide, Or.inl rfl, Or.inl (jv_Tt 136 (by decide +kernel) rfl), by decide +kernel, rfl, ui_X9, ⟨tyX9, tyX9_ok⟩, nmX9⟩
theorem fl_X9_18 : FL RX9 18 8 2 .boolean false := ⟨(RX9, TX9, 6), "RankedSearch$Term", rfl, by decide, Or.inl rfl, Or.inl (jv_Tt 139 (by decide +kernel) rfl), by decide +kernel, rfl, ui_X9, ⟨tyX9, tyX9_ok⟩, nmX9⟩
theorem fl_X9_21 : FL RX9 21 8 3 .long false := ⟨(RX9, TX9, 6), "RankedSearch$Term", rfl, by decide, Or.inl rfl, Or.inl (jv_Tt 141 (by decide +kernel) rfl), by decide +kernel, rfl, ui_X9, ⟨tyX9, tyX9_ok⟩, nmX9⟩
theorem fl_X9_25 : FL RX9 25 8 4 .int false := ⟨(RX9, TX9, 6), "RankedSearch$Term", rfl, by decide, Or.inl rfl, Or.inl (jv_Tt 143 (by decide +kernel) rfl), by decide +kernel, rfl, ui_X9, ⟨tyX9, tyX9_ok⟩, nmX9⟩
theorem fl_X9_29 : FL RX9 29 8 5 .int false := ⟨(RX9, TX9, 6), "RankedSearch$Term", rfl, by decide, Or.inl rfl, Or.inl (jv_Tt 144 (by decide +kernel) rfl), by decide +kernel, rfl, ui_X9, ⟨tyX9, tyX9_ok⟩, nmX9⟩
theorem fl_X10_7 : FL RX10 7 9 0 .long false := ⟨(RX10, TX10, 5), "RankedSearch$Word", rfl, by decide, Or.inl rfl, Or.inl (jv_Tt 565 (by decide +kernel) rfl), by decide +kernel, rfl, ui_X10, ⟨tyX10, tyX10_ok⟩, nmX10⟩
theorem fl_X10_13 : FL RX10 13 9 1 .int false := ⟨(RX10, TX10, 5), "RankedSearch$Word", rfl, by decide, Or.inl rfl, Or.inl (jv_Tt 569 (by decide +kernel) rfl), by decide +kernel, rfl, ui_X10, ⟨tyX10, tyX10_ok⟩, nmX10⟩
theorem fl_X10_17 : FL RX10 17 9 2 .int false := ⟨(RX10, TX10, 5), "RankedSearch$Word", rfl, by decide, Or.inl rfl, Or.inl (jv_Tt 572 (by decide +kernel) rfl), by decide +kernel, rfl, ui_X10, ⟨tyX10, tyX10_ok⟩, nmX10⟩
theorem fl_X10_20 : FL RX10 20 9 3 (.object "RankedSearch$Posting") false := ⟨(RX10, TX10, 5), "RankedSearch$Word", rfl, by decide, Or.inl rfl, Or.inl (jv_Tt 575 (by decide +kernel) rfl), by decide +kernel, rfl, ui_X10, ⟨tyX10, tyX10_ok⟩, nmX10⟩
theorem fl_X10_24 : FL RX10 24 9 4 (.object "RankedSearch$Word") false := ⟨(RX10, TX10, 5), "RankedSearch$Word", rfl, by decide, Or.inl rfl, Or.inl (jv_Tt 578 (by decide +kernel) rfl), by decide +kernel, rfl, ui_X10, ⟨tyX10, tyX10_ok⟩, nmX10⟩
theorem fl_X12_7 : FL RX12 7 11 2 (.array .int) true := ⟨(RX12, TX12, 27), "RankedSearchModel", rfl, by decide, Or.inl rfl, Or.inl (jv_Tt 1124 (by decide +kernel) rfl), by decide +kernel, rfl, ui_X12, ⟨tyX12, tyX12_ok⟩, nmX12⟩
theorem fw_X12_7 : Cond.fieldLink RX12 7 (TX12 2).1 (TX12 2).2.1 (TX12 2).2.2.1 ∈ jv_T := jv_Tt 1124 (by decide +kernel) rfl
theorem fl_X12_13 : FL RX12 13 11 4 (.array .int) true := ⟨(RX12, TX12, 27), "RankedSearchModel", rfl, by decide, Or.inl rfl, Or.inl (jv_Tt 1126 (by decide +kernel) rfl), by decide +kernel, rfl, ui_X12, ⟨tyX12, tyX12_ok⟩, nmX12⟩
theorem fw_X12_13 : Cond.fieldLink RX12 13 (TX12 4).1 (TX12 4).2.1 (TX12 4).2.2.1 ∈ jv_T := jv_Tt 1126 (by decide +kernel) rfl
theorem fl_X12_16 : FL RX12 16 11 5 (.array .int) true := ⟨(RX12, TX12, 27), "RankedSearchModel", rfl, by decide, Or.inl rfl, Or.inl (jv_Tt 1127 (by decide +kernel) rfl), by decide +kernel, rfl, ui_X12, ⟨tyX12, tyX12_ok⟩, nmX12⟩
theorem fw_X12_16 : Cond.fieldLink RX12 16 (TX12 5).1 (TX12 5).2.1 (TX12 5).2.2.1 ∈ jv_T := jv_Tt 1127 (by decide +kernel) rfl
theorem fl_X12_19 : FL RX12 19 11 6 (.array .long) true := ⟨(RX12, TX12, 27), "RankedSearchModel", rfl, by decide, Or.inl rfl, Or.inl (jv_Tt 1128 (by decide +kernel) rfl), by decide +kernel, rfl, ui_X12, ⟨tyX12, tyX12_ok⟩, nmX12⟩
theorem fw_X12_19 : Cond.fieldLink RX12 19 (TX12 6).1 (TX12 6).2.1 (TX12 6).2.2.1 ∈ jv_T := jv_Tt 1128 (by decide +kernel) rfl
theorem fl_X12_23 : FL RX12 23 11 8 (.array .long) true := ⟨(RX12, TX12, 27), "RankedSearchModel", rfl, by decide, Or.inl rfl, Or.inl (jv_Tt 1130 (by decide +kernel) rfl), by decide +kernel, rfl, ui_X12, ⟨tyX12, tyX12_ok⟩, nmX12⟩
theorem fw_X12_23 : Cond.fieldLink RX12 23 (TX12 8).1 (TX12 8).2.1 (TX12 8).2.2.1 ∈ jv_T := jv_Tt 1130 (by decide +kernel) rfl
theorem fl_X12_26 : FL RX12 26 11 10 (.array .long) true := ⟨(RX12, TX12, 27), "RankedSearchModel", rfl, by decide, Or.inl rfl, Or.inl (jv_Tt 1132 (by decide +kernel) rfl), by decide +kernel, rfl, ui_X12, ⟨tyX12, tyX12_ok⟩, nmX12⟩
theorem fw_X12_26 : Cond.fieldLink RX12 26 (TX12 10).1 (TX12 10).2.1 (TX12 10).2.2.1 ∈ jv_T := jv_Tt 1132 (by decide +kernel) rfl
theorem fl_X12_29 : FL RX12 29 11 11 (.array .int) true := ⟨(RX12, TX12, 27), "RankedSearchModel", rfl, by decide, Or.inl rfl, Or.inl (jv_Tt 1133 (by decide +kernel) rfl), by decide +kernel, rfl, ui_X12, ⟨tyX12, tyX12_ok⟩, nmX12⟩
theorem fw_X12_29 : Cond.fieldLink RX12 29 (TX12 11).1 (TX12 11).2.1 (TX12 11).2.2.1 ∈ jv_T := jv_Tt 1133 (by decide +kernel) rfl
theorem fl_X12_32 : FL RX12 32 11 12 (.array .boolean) true := ⟨(RX12, TX12, 27), "RankedSearchModel", rfl, by decide, Or.inl rfl, Or.inl (jv_Tt 1134 (by decide +kernel) rfl), by decide +kernel, rfl, ui_X12, ⟨tyX12, tyX12_ok⟩, nmX12⟩
theorem fw_X12_32 : Cond.fieldLink RX12 32 (TX12 12).1 (TX12 12).2.1 (TX12 12).2.2.1 ∈ jv_T := jv_Tt 1134 (by decide +kernel) rfl
theorem fl_X12_36 : FL RX12 36 11 13 (.array .int) true := ⟨(RX12, TX12, 27), "RankedSearchModel", rfl, by decide, Or.inl rfl, Or.inl (jv_Tt 1135 (by decide +kernel) rfl), by decide +kernel, rfl, ui_X12, ⟨tyX12, tyX12_ok⟩, nmX12⟩
theorem fw_X12_36 : Cond.fieldLink RX12 36 (TX12 13).1 (TX12 13).2.1 (TX12 13).2.2.1 ∈ jv_T := jv_Tt 1135 (by decide +kernel) rfl
theorem fl_X12_39 : FL RX12 39 11 14 (.array .int) true := ⟨(RX12, TX12, 27), "RankedSearchModel", rfl, by decide, Or.inl rfl, Or.inl (jv_Tt 1136 (by decide +kernel) rfl), by decide +kernel, rfl, ui_X12, ⟨tyX12, tyX12_ok⟩, nmX12⟩
theorem fw_X12_39 : Cond.fieldLink RX12 39 (TX12 14).1 (TX12 14).2.1 (TX12 14).2.2.1 ∈ jv_T := jv_Tt 1136 (by decide +kernel) rfl
theorem fl_X12_42 : FL RX12 42 11 17 .int false := ⟨(RX12, TX12, 27), "RankedSearchModel", rfl, by decide, Or.inl rfl, Or.inl (jv_Tt 1139 (by decide +kernel) rfl), by decide +kernel, rfl, ui_X12, ⟨tyX12, tyX12_ok⟩, nmX12⟩
theorem fl_X12_46 : FL RX12 46 11 18 (.array .int) true := ⟨(RX12, TX12, 27), "RankedSearchModel", rfl, by decide, Or.inl rfl, Or.inl (jv_Tt 1140 (by decide +kernel) rfl), by decide +kernel, rfl, ui_X12, ⟨tyX12, tyX12_ok⟩, nmX12⟩
theorem fw_X12_46 : Cond.fieldLink RX12 46 (TX12 18).1 (TX12 18).2.1 (TX12 18).2.2.1 ∈ jv_T := jv_Tt 1140 (by decide +kernel) rfl
theorem fl_X12_49 : FL RX12 49 11 20 (.array .int) true := ⟨(RX12, TX12, 27), "RankedSearchModel", rfl, by decide, Or.inl rfl, Or.inl (jv_Tt 1142 (by decide +kernel) rfl), by decide +kernel, rfl, ui_X12, ⟨tyX12, tyX12_ok⟩, nmX12⟩
theorem fw_X12_49 : Cond.fieldLink RX12 49 (TX12 20).1 (TX12 20).2.1 (TX12 20).2.2.1 ∈ jv_T := jv_Tt 1142 (by decide +kernel) rfl
theorem fl_X12_52 : FL RX12 52 11 21 (.array .int) true := ⟨(RX12, TX12, 27), "RankedSearchModel", rfl, by decide, Or.inl rfl, Or.inl (jv_Tt 1143 (by decide +kernel) rfl), by decide +kernel, rfl, ui_X12, ⟨tyX12, tyX12_ok⟩, nmX12⟩
theorem fw_X12_52 : Cond.fieldLink RX12 52 (TX12 21).1 (TX12 21).2.1 (TX12 21).2.2.1 ∈ jv_T := jv_Tt 1143 (by decide +kernel) rfl
theorem fl_X12_55 : FL RX12 55 11 23 (.array .boolean) true := ⟨(RX12, TX12, 27), "RankedSearchModel", rfl, by decide, Or.inl rfl, Or.inl (jv_Tt 1145 (by decide +kernel) rfl), by decide +kernel, rfl, ui_X12, ⟨tyX12, tyX12_ok⟩, nmX12⟩
theorem fw_X12_55 : Cond.fieldLink RX12 55 (TX12 23).1 (TX12 23).2.1 (TX12 23).2.2.1 ∈ jv_T := jv_Tt 1145 (by decide +kernel) rfl
theorem fl_X12_58 : FL RX12 58 11 24 (.array .int) true := ⟨(RX12, TX12, 27), "RankedSearchModel", rfl, by decide, Or.inl rfl, Or.inl (jv_Tt 1146 (by decide +kernel) rfl), by decide +kernel, rfl, ui_X12, ⟨tyX12, tyX12_ok⟩, nmX12⟩
theorem fw_X12_58 : Cond.fieldLink RX12 58 (TX12 24).1 (TX12 24).2.1 (TX12 24).2.2.1 ∈ jv_T := jv_Tt 1146 (by decide +kernel) rfl
theorem fl_X12_62 : FL RX12 62 11 25 (.array .long) true := ⟨(RX12, TX12, 27), "RankedSearchModel", rfl, by decide, Or.inl rfl, Or.inl (jv_Tt 1147 (by decide +kernel) rfl), by decide +kernel, rfl, ui_X12, ⟨tyX12, tyX12_ok⟩, nmX12⟩
theorem fw_X12_62 : Cond.fieldLink RX12 62 (TX12 25).1 (TX12 25).2.1 (TX12 25).2.2.1 ∈ jv_T := jv_Tt 1147 (by decide +kernel) rfl
theorem fl_X12_65 : FL RX12 65 11 26 (.array .int) true := ⟨(RX12, TX12, 27), "RankedSearchModel", rfl, by decide, Or.inl rfl, Or.inl (jv_Tt 1148 (by decide +kernel) rfl), by decide +kernel, rfl, ui_X12, ⟨tyX12, tyX12_ok⟩, nmX12⟩
theorem fw_X12_65 : Cond.fieldLink RX12 65 (TX12 26).1 (TX12 26).2.1 (TX12 26).2.2.1 ∈ jv_T := jv_Tt 1148 (by decide +kernel) rfl
theorem fl_X12_68 : FL RX12 68 11 0 .int false := ⟨(RX12, TX12, 27), "RankedSearchModel", rfl, by decide, Or.inl rfl, Or.inl (jv_Tt 1122 (by decide +kernel) rfl), by decide +kernel, rfl, ui_X12, ⟨tyX12, tyX12_ok⟩, nmX12⟩
theorem fl_X12_71 : FL RX12 71 11 7 .int false := ⟨(RX12, TX12, 27), "RankedSearchModel", rfl, by decide, Or.inl rfl, Or.inl (jv_Tt 1129 (by decide +kernel) rfl), by decide +kernel, rfl, ui_X12, ⟨tyX12, tyX12_ok⟩, nmX12⟩
theorem fl_X12_74 : FL RX12 74 11 1 .int false := ⟨(RX12, TX12, 27), "RankedSearchModel", rfl, by decide, Or.inl rfl, Or.inl (jv_Tt 1123 (by decide +kernel) rfl), by decide +kernel, rfl, ui_X12, ⟨tyX12, tyX12_ok⟩, nmX12⟩
theorem fl_X12_85 : FL RX12 85 11 3 .int false := ⟨(RX12, TX12, 27), "RankedSearchModel", rfl, by decide, Or.inl rfl, Or.inl (jv_Tt 1125 (by decide +kernel) rfl), by decide +kernel, rfl, ui_X12, ⟨tyX12, tyX12_ok⟩, nmX12⟩
theorem fl_X12_94 : FL RX12 94 11 22 .boolean false := ⟨(RX12, TX12, 27), "RankedSearchModel", rfl, by decide, Or.inl rfl, Or.inl (jv_Tt 1144 (by decide +kernel) rfl), by decide +kernel, rfl, ui_X12, ⟨tyX12, tyX12_ok⟩, nmX12⟩
theorem fl_X12_144 : FL RX12 144 11 15 .int false := ⟨(RX12, TX12, 27), "RankedSearchModel", rfl, by decide, Or.inl rfl, Or.inl (jv_Tt 1137 (by decide +kernel) rfl), by decide +kernel, rfl, ui_X12, ⟨tyX12, tyX12_ok⟩, nmX12⟩
theorem fl_X12_151 : FL RX12 151 11 16 .int false := ⟨(RX12, TX12, 27), "RankedSearchModel", rfl, by decide, Or.inl rfl, Or.inl (jv_Tt 1138 (by decide +kernel) rfl), by decide +kernel, rfl, ui_X12, ⟨tyX12, tyX12_ok⟩, nmX12⟩
theorem fl_X12_154 : FL RX12 154 11 9 .int false := ⟨(RX12, TX12, 27), "RankedSearchModel", rfl, by decide, Or.inl rfl, Or.inl (jv_Tt 1131 (by decide +kernel) rfl), by decide +kernel, rfl, ui_X12, ⟨tyX12, tyX12_ok⟩, nmX12⟩
theorem fl_X12_184 : FL RX12 184 11 19 .int false := ⟨(RX12, TX12, 27), "RankedSearchModel", rfl, by decide, Or.inl rfl, Or.inl (jv_Tt 1141 (by decide +kernel) rfl), by decide +kernel, rfl, ui_X12, ⟨tyX12, tyX12_ok⟩, nmX12⟩
theorem fl_Jxc12de_7 : FL RJxc12de 7 12 0 .int false := ⟨(RJx4a65c, TJx4a65c, 3), "java/util/AbstractList", rfl, by decide, Or.inl rfl, Or.inl (jv_Tt 79 (by decide +kernel) rfl), by decide +kernel, rfl, ui_Jx4a65c, ⟨tyJx4a65c, tyJx4a65c_ok⟩, nmJx4a65c⟩
theorem fl_Jx4a65c_9 : FL RJx4a65c 9 12 1 (.array (.object "java/lang/Object")) false := ⟨(RJx4a65c, TJx4a65c, 3), "java/util/ArrayList", rfl, by decide, Or.inl rfl, Or.inl (jv_Tt 77 (by decide +kernel) rfl), by decide +kernel, rfl, ui_Jx4a65c, ⟨tyJx4a65c, tyJx4a65c_ok⟩, nmJx4a65c⟩
theorem fl_Jx4a65c_48 : FL RJx4a65c 48 12 2 .int false := ⟨(RJx4a65c, TJx4a65c, 3), "java/util/ArrayList", rfl, by decide, Or.inl rfl, Or.inl (jv_Tt 78 (by decide +kernel) rfl), by decide +kernel, rfl, ui_Jx4a65c, ⟨tyJx4a65c, tyJx4a65c_ok⟩, nmJx4a65c⟩
theorem fl_Jx4a65c_63 : FL RJx4a65c 63 12 0 .int false := ⟨(RJx4a65c, TJx4a65c, 3), "java/util/ArrayList", rfl, by decide, Or.inr (jv_Tt 81 (by decide +kernel) rfl), Or.inl (jv_Tt 80 (by decide +kernel) rfl), by decide +kernel, rfl, ui_Jx4a65c, ⟨tyJx4a65c, tyJx4a65c_ok⟩, nmJx4a65c⟩
theorem fl_X11_74 : FL RX11 74 1 1 .int false := ⟨(RX1, TX1, 8), "RankedSearch$Document", rfl, by decide, Or.inl rfl, Or.inr ⟨"RankedSearch", jv_Nm 401 (by decide +kernel) rfl⟩, by decide +kernel, rfl, ui_X1, ⟨tyX1, tyX1_ok⟩, nmX1⟩
theorem fl_X11_86 : FL RX11 86 3 1 (.object "RankedSearch$Lexicon") true := ⟨(RX4, TX4, 4), "RankedSearch$Library", rfl, by decide, Or.inl rfl, Or.inr ⟨"RankedSearch", jv_Nm 107 (by decide +kernel) rfl⟩, by decide +kernel, rfl, ui_X4, ⟨tyX4, tyX4_ok⟩, nmX4⟩
theorem fl_X11_95 : FL RX11 95 3 2 .int false := ⟨(RX4, TX4, 4), "RankedSearch$Library", rfl, by decide, Or.inl rfl, Or.inr ⟨"RankedSearch", jv_Nm 108 (by decide +kernel) rfl⟩, by decide +kernel, rfl, ui_X4, ⟨tyX4, tyX4_ok⟩, nmX4⟩
theorem fl_X11_106 : FL RX11 106 9 0 .long false := ⟨(RX10, TX10, 5), "RankedSearch$Word", rfl, by decide, Or.inl rfl, Or.inr ⟨"RankedSearch", jv_Nm 568 (by decide +kernel) rfl⟩, by decide +kernel, rfl, ui_X10, ⟨tyX10, tyX10_ok⟩, nmX10⟩
theorem fl_X11_133 : FL RX11 133 9 1 .int false := ⟨(RX10, TX10, 5), "RankedSearch$Word", rfl, by decide, Or.inl rfl, Or.inr ⟨"RankedSearch", jv_Nm 571 (by decide +kernel) rfl⟩, by decide +kernel, rfl, ui_X10, ⟨tyX10, tyX10_ok⟩, nmX10⟩
theorem fl_X11_140 : FL RX11 140 9 2 .int false := ⟨(RX10, TX10, 5), "RankedSearch$Word", rfl, by decide, Or.inl rfl, Or.inr ⟨"RankedSearch", jv_Nm 573 (by decide +kernel) rfl⟩, by decide +kernel, rfl, ui_X10, ⟨tyX10, tyX10_ok⟩, nmX10⟩
theorem fl_X11_153 : FL RX11 153 5 4 .int false := ⟨(RX6, TX6, 6), "RankedSearch$Query", rfl, by decide, Or.inl rfl, Or.inr ⟨"RankedSearch", jv_Nm 166 (by decide +kernel) rfl⟩, by decide +kernel, rfl, ui_X6, ⟨tyX6, tyX6_ok⟩, nmX6⟩
theorem fl_X11_160 : FL RX11 160 0 3 .int false := ⟨(RX0, TX0, 4), "RankedSearch$Best", rfl, by decide, Or.inl rfl, Or.inr ⟨"RankedSearch", jv_Nm 205 (by decide +kernel) rfl⟩, by decide +kernel, rfl, ui_X0, ⟨tyX0, tyX0_ok⟩, nmX0⟩
theorem fl_X11_163 : FL RX11 163 5 5 .int false := ⟨(RX6, TX6, 6), "RankedSearch$Query", rfl, by decide, Or.inl rfl, Or.inr ⟨"RankedSearch", jv_Nm 168 (by decide +kernel) rfl⟩, by decide +kernel, rfl, ui_X6, ⟨tyX6, tyX6_ok⟩, nmX6⟩
theorem fl_X3_32 : FL RX3 32 9 0 .long false := ⟨(RX10, TX10, 5), "RankedSearch$Word", rfl, by decide, Or.inl rfl, Or.inr ⟨"RankedSearch", jv_Nm 566 (by decide +kernel) rfl⟩, by decide +kernel, rfl, ui_X10, ⟨tyX10, tyX10_ok⟩, nmX10⟩
theorem fl_X3_59 : FL RX3 59 9 4 (.object "RankedSearch$Word") false := ⟨(RX10, TX10, 5), "RankedSearch$Word", rfl, by decide, Or.inl rfl, Or.inr ⟨"RankedSearch", jv_Nm 579 (by decide +kernel) rfl⟩, by decide +kernel, rfl, ui_X10, ⟨tyX10, tyX10_ok⟩, nmX10⟩
theorem fl_X4_80 : FL RX4 80 9 1 .int false := ⟨(RX10, TX10, 5), "RankedSearch$Word", rfl, by decide, Or.inl rfl, Or.inr ⟨"RankedSearch", jv_Nm 570 (by decide +kernel) rfl⟩, by decide +kernel, rfl, ui_X10, ⟨tyX10, tyX10_ok⟩, nmX10⟩
theorem fl_X4_89 : FL RX4 89 1 0 .int true := ⟨(RX1, TX1, 8), "RankedSearch$Document", rfl, by decide, Or.inl rfl, Or.inr ⟨"RankedSearch", jv_Nm 399 (by decide +kernel) rfl⟩, by decide +kernel, rfl, ui_X1, ⟨tyX1, tyX1_ok⟩, nmX1⟩
theorem fl_X4_92 : FL RX4 92 9 3 (.object "RankedSearch$Posting") false := ⟨(RX10, TX10, 5), "RankedSearch$Word", rfl, by decide, Or.inl rfl, Or.inr ⟨"RankedSearch", jv_Nm 577 (by decide +kernel) rfl⟩, by decide +kernel, rfl, ui_X10, ⟨tyX10, tyX10_ok⟩, nmX10⟩
theorem fl_X4_96 : FL RX4 96 4 1 (.object "RankedSearch$Document") false := ⟨(RX5, TX5, 6), "RankedSearch$Posting", rfl, by decide, Or.inl rfl, Or.inr ⟨"RankedSearch", jv_Nm 875 (by decide +kernel) rfl⟩, by decide +kernel, rfl, ui_X5, ⟨tyX5, tyX5_ok⟩, nmX5⟩
theorem fl_X4_106 : FL RX4 106 4 2 .int false := ⟨(RX5, TX5, 6), "RankedSearch$Posting", rfl, by decide, Or.inl rfl, Or.inr ⟨"RankedSearch", jv_Nm 879 (by decide +kernel) rfl⟩, by decide +kernel, rfl, ui_X5, ⟨tyX5, tyX5_ok⟩, nmX5⟩
theorem fl_X4_109 : FL RX4 109 9 2 .int false := ⟨(RX10, TX10, 5), "RankedSearch$Word", rfl, by decide, Or.inl rfl, Or.inr ⟨"RankedSearch", jv_Nm 574 (by decide +kernel) rfl⟩, by decide +kernel, rfl, ui_X10, ⟨tyX10, tyX10_ok⟩, nmX10⟩
theorem fl_X4_112 : FL RX4 112 1 1 .int false := ⟨(RX1, TX1, 8), "RankedSearch$Document", rfl, by decide, Or.inl rfl, Or.inr ⟨"RankedSearch", jv_Nm 402 (by decide +kernel) rfl⟩, by decide +kernel, rfl, ui_X1, ⟨tyX1, tyX1_ok⟩, nmX1⟩
theorem fl_X4_121 : FL RX4 121 4 0 (.object "RankedSearch$Word") false := ⟨(RX5, TX5, 6), "RankedSearch$Posting", rfl, by decide, Or.inl rfl, Or.inr ⟨"RankedSearch", jv_Nm 872 (by decide +kernel) rfl⟩, by decide +kernel, rfl, ui_X5, ⟨tyX5, tyX5_ok⟩, nmX5⟩
theorem fl_X4_125 : FL RX4 125 1 2 (.object "RankedSearch$Posting") false := ⟨(RX1, TX1, 8), "RankedSearch$Document", rfl, by decide, Or.inl rfl, Or.inr ⟨"RankedSearch", jv_Nm 404 (by decide +kernel) rfl⟩, by decide +kernel, rfl, ui_X1, ⟨tyX1, tyX1_ok⟩, nmX1⟩
theorem fl_X4_126 : FL RX4 126 4 5 (.object "RankedSearch$Posting") false := ⟨(RX5, TX5, 6), "RankedSearch$Posting", rfl, by decide, Or.inl rfl, Or.inr ⟨"RankedSearch", jv_Nm 884 (by decide +kernel) rfl⟩, by decide +kernel, rfl, ui_X5, ⟨tyX5, tyX5_ok⟩, nmX5⟩
theorem fl_X5_17 : FL RX5 17 1 1 .int false := ⟨(RX1, TX1, 8), "RankedSearch$Document", rfl, by decide, Or.inl rfl, Or.inr ⟨"RankedSearch", jv_Nm 400 (by decide +kernel) rfl⟩, by decide +kernel, rfl, ui_X1, ⟨tyX1, tyX1_ok⟩, nmX1⟩
theorem fl_X6_79 : FL RX6 79 8 0 .boolean false := ⟨(RX9, TX9, 6), "RankedSearch$Term", rfl, by decide, Or.inl rfl, Or.inr ⟨"RankedSearch", jv_Nm 135 (by decide +kernel) rfl⟩, by decide +kernel, rfl, ui_X9, ⟨tyX9, tyX9_ok⟩, nmX9⟩
theorem fl_X6_83 : FL RX6 83 8 1 .boolean false := ⟨(RX9, TX9, 6), "RankedSearch$Term", rfl, by decide, Or.inl rfl, Or.inr ⟨"RankedSearch", jv_Nm 138 (by decide +kernel) rfl⟩, by decide +kernel, rfl, ui_X9, ⟨tyX9, tyX9_ok⟩, nmX9⟩
theorem fl_X6_92 : FL RX6 92 8 2 .boolean false := ⟨(RX9, TX9, 6), "RankedSearch$Term", rfl, by decide, Or.inl rfl, Or.inr ⟨"RankedSearch", jv_Nm 140 (by decide +kernel) rfl⟩, by decide +kernel, rfl, ui_X9, ⟨tyX9, tyX9_ok⟩, nmX9⟩
theorem fl_X6_95 : FL RX6 95 8 5 .int false := ⟨(RX9, TX9, 6), "RankedSearch$Term", rfl, by decide, Or.inl rfl, Or.inr ⟨"RankedSearch", jv_Nm 146 (by decide +kernel) rfl⟩, by decide +kernel, rfl, ui_X9, ⟨tyX9, tyX9_ok⟩, nmX9⟩
theorem fl_X7_15 : FL RX7 15 5 1 .int false := ⟨(RX6, TX6, 6), "RankedSearch$Query", rfl, by decide, Or.inl rfl, Or.inr ⟨"RankedSearch", jv_Nm 162 (by decide +kernel) rfl⟩, by decide +kernel, rfl, ui_X6, ⟨tyX6, tyX6_ok⟩, nmX6⟩
theorem fl_X7_36 : FL RX7 36 1 4 .boolean false := ⟨(RX1, TX1, 8), "RankedSearch$Document", rfl, by decide, Or.inl rfl, Or.inr ⟨"RankedSearch", jv_Nm 406 (by decide +kernel) rfl⟩, by decide +kernel, rfl, ui_X1, ⟨tyX1, tyX1_ok⟩, nmX1⟩
theorem fl_X7_42 : FL RX7 42 1 2 (.object "RankedSearch$Posting") false := ⟨(RX1, TX1, 8), "RankedSearch$Document", rfl, by decide, Or.inl rfl, Or.inr ⟨"RankedSearch", jv_Nm 403 (by decide +kernel) rfl⟩, by decide +kernel, rfl, ui_X1, ⟨tyX1, tyX1_ok⟩, nmX1⟩
theorem fl_X7_46 : FL RX7 46 4 0 (.object "RankedSearch$Word") false := ⟨(RX5, TX5, 6), "RankedSearch$Posting", rfl, by decide, Or.inl rfl, Or.inr ⟨"RankedSearch", jv_Nm 871 (by decide +kernel) rfl⟩, by decide +kernel, rfl, ui_X5, ⟨tyX5, tyX5_ok⟩, nmX5⟩
theorem fl_X7_52 : FL RX7 52 4 2 .int false := ⟨(RX5, TX5, 6), "RankedSearch$Posting", rfl, by decide, Or.inl rfl, Or.inr ⟨"RankedSearch", jv_Nm 877 (by decide +kernel) rfl⟩, by decide +kernel, rfl, ui_X5, ⟨tyX5, tyX5_ok⟩, nmX5⟩
theorem fl_X7_71 : FL RX7 71 4 5 (.object "RankedSearch$Posting") false := ⟨(RX5, TX5, 6), "RankedSearch$Posting", rfl, by decide, Or.inl rfl, Or.inr ⟨"RankedSearch", jv_Nm 883 (by decide +kernel) rfl⟩, by decide +kernel, rfl, ui_X5, ⟨tyX5, tyX5_ok⟩, nmX5⟩
theorem fl_X7_74 : FL RX7 74 8 0 .boolean false := ⟨(RX9, TX9, 6), "RankedSearch$Term", rfl, by decide, Or.inl rfl, Or.inr ⟨"RankedSearch", jv_Nm 134 (by decide +kernel) rfl⟩, by decide +kernel, rfl, ui_X9, ⟨tyX9, tyX9_ok⟩, nmX9⟩
theorem fl_X7_79 : FL RX7 79 3 1 (.object "RankedSearch$Lexicon") true := ⟨(RX4, TX4, 4), "RankedSearch$Library", rfl, by decide, Or.inl rfl, Or.inr ⟨"RankedSearch", jv_Nm 106 (by decide +kernel) rfl⟩, by decide +kernel, rfl, ui_X4, ⟨tyX4, tyX4_ok⟩, nmX4⟩
theorem fl_X7_87 : FL RX7 87 8 3 .long false := ⟨(RX9, TX9, 6), "RankedSearch$Term", rfl, by decide, Or.inl rfl, Or.inr ⟨"RankedSearch", jv_Nm 142 (by decide +kernel) rfl⟩, by decide +kernel, rfl, ui_X9, ⟨tyX9, tyX9_ok⟩, nmX9⟩
theorem fl_X7_105 : FL RX7 105 9 0 .long false := ⟨(RX10, TX10, 5), "RankedSearch$Word", rfl, by decide, Or.inl rfl, Or.inr ⟨"RankedSearch", jv_Nm 567 (by decide +kernel) rfl⟩, by decide +kernel, rfl, ui_X10, ⟨tyX10, tyX10_ok⟩, nmX10⟩
theorem fl_X7_108 : FL RX7 108 8 1 .boolean false := ⟨(RX9, TX9, 6), "RankedSearch$Term", rfl, by decide, Or.inl rfl, Or.inr ⟨"RankedSearch", jv_Nm 137 (by decide +kernel) rfl⟩, by decide +kernel, rfl, ui_X9, ⟨tyX9, tyX9_ok⟩, nmX9⟩
theorem fl_X7_115 : FL RX7 115 8 5 .int false := ⟨(RX9, TX9, 6), "RankedSearch$Term", rfl, by decide, Or.inl rfl, Or.inr ⟨"RankedSearch", jv_Nm 145 (by decide +kernel) rfl⟩, by decide +kernel, rfl, ui_X9, ⟨tyX9, tyX9_ok⟩, nmX9⟩
theorem fl_X7_118 : FL RX7 118 9 3 (.object "RankedSearch$Posting") false := ⟨(RX10, TX10, 5), "RankedSearch$Word", rfl, by decide, Or.inl rfl, Or.inr ⟨"RankedSearch", jv_Nm 576 (by decide +kernel) rfl⟩, by decide +kernel, rfl, ui_X10, ⟨tyX10, tyX10_ok⟩, nmX10⟩
theorem fl_X7_119 : FL RX7 119 4 1 (.object "RankedSearch$Document") false := ⟨(RX5, TX5, 6), "RankedSearch$Posting", rfl, by decide, Or.inl rfl, Or.inr ⟨"RankedSearch", jv_Nm 874 (by decide +kernel) rfl⟩, by decide +kernel, rfl, ui_X5, ⟨tyX5, tyX5_ok⟩, nmX5⟩
theorem fl_X7_123 : FL RX7 123 1 5 .int false := ⟨(RX1, TX1, 8), "RankedSearch$Document", rfl, by decide, Or.inl rfl, Or.inr ⟨"RankedSearch", jv_Nm 407 (by decide +kernel) rfl⟩, by decide +kernel, rfl, ui_X1, ⟨tyX1, tyX1_ok⟩, nmX1⟩
theorem fl_X7_126 : FL RX7 126 1 6 .int false := ⟨(RX1, TX1, 8), "RankedSearch$Document", rfl, by decide, Or.inl rfl, Or.inr ⟨"RankedSearch", jv_Nm 408 (by decide +kernel) rfl⟩, by decide +kernel, rfl, ui_X1, ⟨tyX1, tyX1_ok⟩, nmX1⟩
theorem fl_X7_132 : FL RX7 132 4 4 (.object "RankedSearch$Posting") false := ⟨(RX5, TX5, 6), "RankedSearch$Posting", rfl, by decide, Or.inl rfl, Or.inr ⟨"RankedSearch", jv_Nm 882 (by decide +kernel) rfl⟩, by decide +kernel, rfl, ui_X5, ⟨tyX5, tyX5_ok⟩, nmX5⟩
theorem fl_X7_135 : FL RX7 135 1 3 .boolean false := ⟨(RX1, TX1, 8), "RankedSearch$Document", rfl, by decide, Or.inl rfl, Or.inr ⟨"RankedSearch", jv_Nm 405 (by decide +kernel) rfl⟩, by decide +kernel, rfl, ui_X1, ⟨tyX1, tyX1_ok⟩, nmX1⟩
theorem fl_X7_141 : FL RX7 141 1 7 (.object "RankedSearch$Document") false := ⟨(RX1, TX1, 8), "RankedSearch$Document", rfl, by decide, Or.inl rfl, Or.inr ⟨"RankedSearch", jv_Nm 409 (by decide +kernel) rfl⟩, by decide +kernel, rfl, ui_X1, ⟨tyX1, tyX1_ok⟩, nmX1⟩
theorem fl_X7_144 : FL RX7 144 1 0 .int true := ⟨(RX1, TX1, 8), "RankedSearch$Document", rfl, by decide, Or.inl rfl, Or.inr ⟨"RankedSearch", jv_Nm 398 (by decide +kernel) rfl⟩, by decide +kernel, rfl, ui_X1, ⟨tyX1, tyX1_ok⟩, nmX1⟩
theorem fl_X10_28 : FL RX10 28 4 3 (.object "RankedSearch$Posting") false := ⟨(RX5, TX5, 6), "RankedSearch$Posting", rfl, by decide, Or.inl rfl, Or.inr ⟨"RankedSearch", jv_Nm 880 (by decide +kernel) rfl⟩, by decide +kernel, rfl, ui_X5, ⟨tyX5, tyX5_ok⟩, nmX5⟩
theorem fl_X10_33 : FL RX10 33 4 4 (.object "RankedSearch$Posting") false := ⟨(RX5, TX5, 6), "RankedSearch$Posting", rfl, by decide, Or.inl rfl, Or.inr ⟨"RankedSearch", jv_Nm 881 (by decide +kernel) rfl⟩, by decide +kernel, rfl, ui_X5, ⟨tyX5, tyX5_ok⟩, nmX5⟩
theorem fl_X10_36 : FL RX10 36 4 2 .int false := ⟨(RX5, TX5, 6), "RankedSearch$Posting", rfl, by decide, Or.inl rfl, Or.inr ⟨"RankedSearch", jv_Nm 878 (by decide +kernel) rfl⟩, by decide +kernel, rfl, ui_X5, ⟨tyX5, tyX5_ok⟩, nmX5⟩
theorem ml_X11_3 : Cond.methodLink RX11 3 objectInit ∈ jv_T := jv_Tt 40 (by decide +kernel) rfl
theorem cb_yX6_init : CB yX6_init cX6_init 2 (none) 0 := ⟨jv_Tt 124 (by decide +kernel) rfl, jv_Tt 8 (by decide +kernel) rfl, by decide +kernel, by decide⟩
theorem cw_X11_25 : CWI RX11 25 yX6_init cX6_init 2 0 := ⟨cb_yX6_init, jv_Tt 123 (by decide +kernel) rfl, rfl, Or.inl (jv_Tt 122 (by decide +kernel) rfl)⟩
theorem cb_yX8_append : CB yX8_append cX8_append 5 (some FieldType.boolean) 2 := ⟨jv_Tt 361 (by decide +kernel) rfl, jv_Tt 2 (by decide +kernel) rfl, by decide +kernel, by decide⟩
theorem cw_X11_51 : CWV RX11 51 yX8_append cX8_append 5 (some FieldType.boolean) 2 := ⟨cb_yX8_append, jv_Tt 358 (by decide +kernel) rfl, jv_Tt 359 (by decide +kernel) rfl, jv_Tt 360 (by decide +kernel) rfl⟩
theorem cb_yX8_length : CB yX8_length cX8_length 1 (some FieldType.int) 0 := ⟨jv_Tt 239 (by decide +kernel) rfl, jv_Tt 2 (by decide +kernel) rfl, by decide +kernel, by decide⟩
theorem cw_X11_55 : CWV RX11 55 yX8_length cX8_length 1 (some FieldType.int) 0 := ⟨cb_yX8_length, jv_Tt 236 (by decide +kernel) rfl, jv_Tt 237 (by decide +kernel) rfl, jv_Tt 238 (by decide +kernel) rfl⟩
theorem cb_yX8_empty : CB yX8_empty cX8_empty 1 (none) 0 := ⟨jv_Tt 243 (by decide +kernel) rfl, jv_Tt 2 (by decide +kernel) rfl, by decide +kernel, by decide⟩
theorem cw_X11_59 : CWV RX11 59 yX8_empty cX8_empty 1 (none) 0 := ⟨cb_yX8_empty, jv_Tt 240 (by decide +kernel) rfl, jv_Tt 241 (by decide +kernel) rfl, jv_Tt 242 (by decide +kernel) rfl⟩
theorem cb_yX11_requireNumber : CB yX11_requireNumber cX11_requireNumber 1 (none) 1 := ⟨jv_Tt 371 (by decide +kernel) rfl, jv_Tt 1 (by decide +kernel) rfl, by decide +kernel, by decide⟩
theorem cw_X11_62 : CWS RX11 62 yX11_requireNumber cX11_requireNumber 1 (none) 1 := ⟨cb_yX11_requireNumber, jv_Tt 369 (by decide +kernel) rfl, jv_Tt 370 (by decide +kernel) rfl⟩
theorem cb_yX4_openDocument : CB yX4_openDocument cX4_openDocument 4 (some (FieldType.object "RankedSearch$Document")) 1 := ⟨jv_Tt 376 (by decide +kernel) rfl, jv_Tt 3 (by decide +kernel) rfl, by decide +kernel, by decide⟩
theorem cw_X11_66 : CWV RX11 66 yX4_openDocument cX4_openDocument 4 (some (FieldType.object "RankedSearch$Document")) 1 := ⟨cb_yX4_openDocument, jv_Tt 373 (by decide +kernel) rfl, jv_Tt 374 (by decide +kernel) rfl, jv_Tt 375 (by decide +kernel) rfl⟩
theorem cb_yX4_rewrite : CB yX4_rewrite cX4_rewrite 6 (none) 2 := ⟨jv_Tt 494 (by decide +kernel) rfl, jv_Tt 3 (by decide +kernel) rfl, by decide +kernel, by decide⟩
theorem cw_X11_70 : CWV RX11 70 yX4_rewrite cX4_rewrite 6 (none) 2 := ⟨cb_yX4_rewrite, jv_Tt 491 (by decide +kernel) rfl, jv_Tt 492 (by decide +kernel) rfl, jv_Tt 493 (by decide +kernel) rfl⟩
theorem cb_yX4_removeDocument : CB yX4_removeDocument cX4_removeDocument 4 (some FieldType.boolean) 1 := ⟨jv_Tt 912 (by decide +kernel) rfl, jv_Tt 3 (by decide +kernel) rfl, by decide +kernel, by decide⟩
theorem cw_X11_79 : CWV RX11 79 yX4_removeDocument cX4_removeDocument 4 (some FieldType.boolean) 1 := ⟨cb_yX4_removeDocument, jv_Tt 909 (by decide +kernel) rfl, jv_Tt 910 (by decide +kernel) rfl, jv_Tt 911 (by decide +kernel) rfl⟩
theorem cb_yX4_documentCount : CB yX4_documentCount cX4_documentCount 1 (some FieldType.int) 0 := ⟨jv_Tt 924 (by decide +kernel) rfl, jv_Tt 3 (by decide +kernel) rfl, by decide +kernel, by decide⟩
theorem cw_X11_83 : CWV RX11 83 yX4_documentCount cX4_documentCount 1 (some FieldType.int) 0 := ⟨cb_yX4_documentCount, jv_Tt 921 (by decide +kernel) rfl, jv_Tt 922 (by decide +kernel) rfl, jv_Tt 923 (by decide +kernel) rfl⟩
theorem cb_yX3_size : CB yX3_size cX3_size 1 (some FieldType.int) 0 := ⟨jv_Tt 928 (by decide +kernel) rfl, jv_Tt 7 (by decide +kernel) rfl, by decide +kernel, by decide⟩
theorem cw_X11_90 : CWV RX11 90 yX3_size cX3_size 1 (some FieldType.int) 0 := ⟨cb_yX3_size, jv_Tt 925 (by decide +kernel) rfl, jv_Tt 926 (by decide +kernel) rfl, jv_Tt 927 (by decide +kernel) rfl⟩
theorem cb_yX3_wordAt : CB yX3_wordAt cX3_wordAt 2 (some (FieldType.object "RankedSearch$Word")) 1 := ⟨jv_Tt 251 (by decide +kernel) rfl, jv_Tt 7 (by decide +kernel) rfl, by decide +kernel, by decide⟩
theorem cw_X11_100 : CWV RX11 100 yX3_wordAt cX3_wordAt 2 (some (FieldType.object "RankedSearch$Word")) 1 := ⟨cb_yX3_wordAt, jv_Tt 248 (by decide +kernel) rfl, jv_Tt 249 (by decide +kernel) rfl, jv_Tt 250 (by decide +kernel) rfl⟩
theorem cb_yX2_firstLowest : CB yX2_firstLowest cX2_firstLowest 7 (some FieldType.long) 1 := ⟨jv_Tt 274 (by decide +kernel) rfl, jv_Tt 24 (by decide +kernel) rfl, by decide +kernel, by decide⟩
theorem cw_X11_112 : CWS RX11 112 yX2_firstLowest cX2_firstLowest 7 (some FieldType.long) 1 := ⟨cb_yX2_firstLowest, jv_Tt 272 (by decide +kernel) rfl, jv_Tt 273 (by decide +kernel) rfl⟩
theorem cb_yX8_wordStart : CB yX8_wordStart cX8_wordStart 3 (some FieldType.int) 1 := ⟨jv_Tt 528 (by decide +kernel) rfl, jv_Tt 2 (by decide +kernel) rfl, by decide +kernel, by decide⟩
theorem cw_X11_118 : CWV RX11 118 yX8_wordStart cX8_wordStart 3 (some FieldType.int) 1 := ⟨cb_yX8_wordStart, jv_Tt 937 (by decide +kernel) rfl, jv_Tt 526 (by decide +kernel) rfl, jv_Tt 527 (by decide +kernel) rfl⟩
theorem cb_yX8_wordEnd : CB yX8_wordEnd cX8_wordEnd 3 (some FieldType.int) 1 := ⟨jv_Tt 543 (by decide +kernel) rfl, jv_Tt 2 (by decide +kernel) rfl, by decide +kernel, by decide⟩
theorem cw_X11_122 : CWV RX11 122 yX8_wordEnd cX8_wordEnd 3 (some FieldType.int) 1 := ⟨cb_yX8_wordEnd, jv_Tt 938 (by decide +kernel) rfl, jv_Tt 541 (by decide +kernel) rfl, jv_Tt 542 (by decide +kernel) rfl⟩
theorem cb_yX8_lettersOf : CB yX8_lettersOf cX8_lettersOf 6 (some FieldType.long) 2 := ⟨jv_Tt 547 (by decide +kernel) rfl, jv_Tt 2 (by decide +kernel) rfl, by decide +kernel, by decide⟩
theorem cw_X11_125 : CWV RX11 125 yX8_lettersOf cX8_lettersOf 6 (some FieldType.long) 2 := ⟨cb_yX8_lettersOf, jv_Tt 939 (by decide +kernel) rfl, jv_Tt 545 (by decide +kernel) rfl, jv_Tt 546 (by decide +kernel) rfl⟩
theorem cb_yX3_wordOf : CB yX3_wordOf cX3_wordOf 4 (some (FieldType.object "RankedSearch$Word")) 1 := ⟨jv_Tt 943 (by decide +kernel) rfl, jv_Tt 7 (by decide +kernel) rfl, by decide +kernel, by decide⟩
theorem cw_X11_129 : CWV RX11 129 yX3_wordOf cX3_wordOf 4 (some (FieldType.object "RankedSearch$Word")) 1 := ⟨cb_yX3_wordOf, jv_Tt 940 (by decide +kernel) rfl, jv_Tt 941 (by decide +kernel) rfl, jv_Tt 942 (by decide +kernel) rfl⟩
theorem cb_yX4_rarity : CB yX4_rarity cX4_rarity 4 (some FieldType.int) 1 := ⟨jv_Tt 947 (by decide +kernel) rfl, jv_Tt 3 (by decide +kernel) rfl, by decide +kernel, by decide⟩
theorem cw_X11_136 : CWV RX11 136 yX4_rarity cX4_rarity 4 (some FieldType.int) 1 := ⟨cb_yX4_rarity, jv_Tt 944 (by decide +kernel) rfl, jv_Tt 945 (by decide +kernel) rfl, jv_Tt 946 (by decide +kernel) rfl⟩
theorem cb_yX11_requireFindable : CB yX11_requireFindable cX11_requireFindable 1 (none) 1 := ⟨jv_Tt 957 (by decide +kernel) rfl, jv_Tt 1 (by decide +kernel) rfl, by decide +kernel, by decide⟩
theorem cw_X11_143 : CWS RX11 143 yX11_requireFindable cX11_requireFindable 1 (none) 1 := ⟨cb_yX11_requireFindable, jv_Tt 955 (by decide +kernel) rfl, jv_Tt 956 (by decide +kernel) rfl⟩
theorem cb_yX0_start : CB yX0_start cX0_start 2 (none) 1 := ⟨jv_Tt 962 (by decide +kernel) rfl, jv_Tt 11 (by decide +kernel) rfl, by decide +kernel, by decide⟩
theorem cw_X11_146 : CWV RX11 146 yX0_start cX0_start 2 (none) 1 := ⟨cb_yX0_start, jv_Tt 959 (by decide +kernel) rfl, jv_Tt 960 (by decide +kernel) rfl, jv_Tt 961 (by decide +kernel) rfl⟩
theorem cb_yX6_read : CB yX6_read cX6_read 3 (none) 1 := ⟨jv_Tt 968 (by decide +kernel) rfl, jv_Tt 8 (by decide +kernel) rfl, by decide +kernel, by decide⟩
theorem cw_X11_149 : CWV RX11 149 yX6_read cX6_read 3 (none) 1 := ⟨cb_yX6_read, jv_Tt 965 (by decide +kernel) rfl, jv_Tt 966 (by decide +kernel) rfl, jv_Tt 967 (by decide +kernel) rfl⟩
theorem cb_yX7_suiting : CB yX7_suiting cX7_suiting 6 (none) 3 := ⟨jv_Tt 1017 (by decide +kernel) rfl, jv_Tt 10 (by decide +kernel) rfl, by decide +kernel, by decide⟩
theorem cw_X11_156 : CWV RX11 156 yX7_suiting cX7_suiting 6 (none) 3 := ⟨cb_yX7_suiting, jv_Tt 1014 (by decide +kernel) rfl, jv_Tt 1015 (by decide +kernel) rfl, jv_Tt 1016 (by decide +kernel) rfl⟩
theorem cb_yX4_documentOf : CB yX4_documentOf cX4_documentOf 2 (some (FieldType.object "RankedSearch$Document")) 1 := ⟨jv_Tt 380 (by decide +kernel) rfl, jv_Tt 3 (by decide +kernel) rfl, by decide +kernel, by decide⟩
theorem cw_X11_166 : CWV RX11 166 yX4_documentOf cX4_documentOf 2 (some (FieldType.object "RankedSearch$Document")) 1 := ⟨cb_yX4_documentOf, jv_Tt 1084 (by decide +kernel) rfl, jv_Tt 378 (by decide +kernel) rfl, jv_Tt 379 (by decide +kernel) rfl⟩
theorem cb_yX7_resembling : CB yX7_resembling cX7_resembling 6 (none) 3 := ⟨jv_Tt 1089 (by decide +kernel) rfl, jv_Tt 10 (by decide +kernel) rfl, by decide +kernel, by decide⟩
theorem cw_X11_171 : CWV RX11 171 yX7_resembling cX7_resembling 6 (none) 3 := ⟨cb_yX7_resembling, jv_Tt 1086 (by decide +kernel) rfl, jv_Tt 1087 (by decide +kernel) rfl, jv_Tt 1088 (by decide +kernel) rfl⟩
theorem cb_yX0_has : CB yX0_has cX0_has 2 (some FieldType.boolean) 1 := ⟨jv_Tt 1102 (by decide +kernel) rfl, jv_Tt 11 (by decide +kernel) rfl, by decide +kernel, by decide⟩
theorem cw_X11_175 : CWV RX11 175 yX0_has cX0_has 2 (some FieldType.boolean) 1 := ⟨cb_yX0_has, jv_Tt 1099 (by decide +kernel) rfl, jv_Tt 1100 (by decide +kernel) rfl, jv_Tt 1101 (by decide +kernel) rfl⟩
theorem cb_yX0_numberAt : CB yX0_numberAt cX0_numberAt 2 (some FieldType.int) 1 := ⟨jv_Tt 1072 (by decide +kernel) rfl, jv_Tt 11 (by decide +kernel) rfl, by decide +kernel, by decide⟩
theorem cw_X11_183 : CWV RX11 183 yX0_numberAt cX0_numberAt 2 (some FieldType.int) 1 := ⟨cb_yX0_numberAt, jv_Tt 1106 (by decide +kernel) rfl, jv_Tt 1070 (by decide +kernel) rfl, jv_Tt 1071 (by decide +kernel) rfl⟩
theorem cb_yX0_pointsAt : CB yX0_pointsAt cX0_pointsAt 2 (some FieldType.int) 1 := ⟨jv_Tt 1068 (by decide +kernel) rfl, jv_Tt 11 (by decide +kernel) rfl, by decide +kernel, by decide⟩
theorem cw_X11_186 : CWV RX11 186 yX0_pointsAt cX0_pointsAt 2 (some FieldType.int) 1 := ⟨cb_yX0_pointsAt, jv_Tt 1114 (by decide +kernel) rfl, jv_Tt 1066 (by decide +kernel) rfl, jv_Tt 1067 (by decide +kernel) rfl⟩
theorem ml_X0_3 : Cond.methodLink RX0 3 objectInit ∈ jv_T := jv_Tt 200 (by decide +kernel) rfl
theorem cb_yJ9_min_7cf53 : CB yJ9_min_7cf53 cJ9_min_7cf53 2 (some FieldType.int) 2 := ⟨jv_Tt 485 (by decide +kernel) rfl, jv_Tt 21 (by decide +kernel) rfl, by decide +kernel, by decide⟩
theorem cw_X0_18 : CWS RX0 18 yJ9_min_7cf53 cJ9_min_7cf53 2 (some FieldType.int) 2 := ⟨cb_yJ9_min_7cf53, jv_Tt 963 (by decide +kernel) rfl, jv_Tt 484 (by decide +kernel) rfl⟩
theorem cb_yJ9_max_7cf53 : CB yJ9_max_7cf53 cJ9_max_7cf53 2 (some FieldType.int) 2 := ⟨jv_Tt 448 (by decide +kernel) rfl, jv_Tt 21 (by decide +kernel) rfl, by decide +kernel, by decide⟩
theorem cw_X0_24 : CWS RX0 24 yJ9_max_7cf53 cJ9_max_7cf53 2 (some FieldType.int) 2 := ⟨cb_yJ9_max_7cf53, jv_Tt 964 (by decide +kernel) rfl, jv_Tt 447 (by decide +kernel) rfl⟩
theorem cb_yX0_goesBefore : CB yX0_goesBefore cX0_goesBefore 5 (some FieldType.boolean) 3 := ⟨jv_Tt 1064 (by decide +kernel) rfl, jv_Tt 11 (by decide +kernel) rfl, by decide +kernel, by decide⟩
theorem cw_X0_34 : CWV RX0 34 yX0_goesBefore cX0_goesBefore 5 (some FieldType.boolean) 3 := ⟨cb_yX0_goesBefore, jv_Tt 1061 (by decide +kernel) rfl, jv_Tt 1063 (by decide +kernel) rfl, jv_Tp 28 (by decide +kernel) rfl⟩
theorem cw_X0_38 : CWV RX0 38 yX0_numberAt cX0_numberAt 2 (some FieldType.int) 1 := ⟨cb_yX0_numberAt, jv_Tt 1069 (by decide +kernel) rfl, jv_Tt 1070 (by decide +kernel) rfl, jv_Tt 1071 (by decide +kernel) rfl⟩
theorem cw_X0_42 : CWV RX0 42 yX0_pointsAt cX0_pointsAt 2 (some FieldType.int) 1 := ⟨cb_yX0_pointsAt, jv_Tt 1065 (by decide +kernel) rfl, jv_Tt 1066 (by decide +kernel) rfl, jv_Tt 1067 (by decide +kernel) rfl⟩
theorem cb_yX0_set : CB yX0_set cX0_set 4 (none) 3 := ⟨jv_Tt 1076 (by decide +kernel) rfl, jv_Tt 11 (by decide +kernel) rfl, by decide +kernel, by decide⟩
theorem cw_X0_45 : CWV RX0 45 yX0_set cX0_set 4 (none) 3 := ⟨cb_yX0_set, jv_Tt 1073 (by decide +kernel) rfl, jv_Tt 1075 (by decide +kernel) rfl, jv_Tp 29 (by decide +kernel) rfl⟩
theorem ml_X1_1 : Cond.methodLink RX1 1 objectInit ∈ jv_T := jv_Tt 396 (by decide +kernel) rfl
theorem cb_yX2_letterOf : CB yX2_letterOf cX2_letterOf 1 (some FieldType.int) 1 := ⟨jv_Tt 538 (by decide +kernel) rfl, jv_Tt 24 (by decide +kernel) rfl, by decide +kernel, by decide⟩
theorem cw_X2_9 : CWS RX2 9 yX2_letterOf cX2_letterOf 1 (some FieldType.int) 1 := ⟨cb_yX2_letterOf, jv_Tt 536 (by decide +kernel) rfl, jv_Tt 537 (by decide +kernel) rfl⟩
theorem ml_X3_3 : Cond.methodLink RX3 3 objectInit ∈ jv_T := jv_Tt 94 (by decide +kernel) rfl
theorem cb_yJx4a65c_init_da8c8 : CB yJx4a65c_init_da8c8 cJx4a65c_init_da8c8 1 (none) 0 := ⟨jv_Tt 67 (by decide +kernel) rfl, jv_Tt 6 (by decide +kernel) rfl, by decide +kernel, by decide⟩
theorem cw_X3_11 : CWI RX3 11 yJx4a65c_init_da8c8 cJx4a65c_init_da8c8 1 0 := ⟨cb_yJx4a65c_init_da8c8, jv_Tt 66 (by decide +kernel) rfl, rfl, Or.inl (jv_Tt 96 (by decide +kernel) rfl)⟩
theorem cb_yJx4a65c_size_8abf5 : CB yJx4a65c_size_8abf5 cJx4a65c_size_8abf5 1 (some FieldType.int) 0 := ⟨jv_Tt 255 (by decide +kernel) rfl, jv_Tt 6 (by decide +kernel) rfl, by decide +kernel, by decide⟩
theorem cw_X3_18 : CWV RX3 18 yJx4a65c_size_8abf5 cJx4a65c_size_8abf5 1 (some FieldType.int) 0 := ⟨cb_yJx4a65c_size_8abf5, jv_Tt 252 (by decide +kernel) rfl, jv_Tt 253 (by decide +kernel) rfl, jv_Tt 254 (by decide +kernel) rfl⟩
theorem cb_yJx4a65c_get_915e3 : CB yJx4a65c_get_915e3 cJx4a65c_get_915e3 2 (some (FieldType.object "java/lang/Object")) 1 := ⟨jv_Tt 259 (by decide +kernel) rfl, jv_Tt 6 (by decide +kernel) rfl, by decide +kernel, by decide⟩
theorem cw_X3_22 : CWV RX3 22 yJx4a65c_get_915e3 cJx4a65c_get_915e3 2 (some (FieldType.object "java/lang/Object")) 1 := ⟨cb_yJx4a65c_get_915e3, jv_Tt 256 (by decide +kernel) rfl, jv_Tt 257 (by decide +kernel) rfl, jv_Tt 258 (by decide +kernel) rfl⟩
theorem cw_X3_28 : CWV RX3 28 yX3_wordAt cX3_wordAt 2 (some (FieldType.object "RankedSearch$Word")) 1 := ⟨cb_yX3_wordAt, jv_Tt 515 (by decide +kernel) rfl, jv_Tt 249 (by decide +kernel) rfl, jv_Tt 250 (by decide +kernel) rfl⟩
theorem cb_yX3_placeOf : CB yX3_placeOf cX3_placeOf 8 (some FieldType.int) 1 := ⟨jv_Tt 514 (by decide +kernel) rfl, jv_Tt 7 (by decide +kernel) rfl, by decide +kernel, by decide⟩
theorem cw_X3_36 : CWV RX3 36 yX3_placeOf cX3_placeOf 8 (some FieldType.int) 1 := ⟨cb_yX3_placeOf, jv_Tt 511 (by decide +kernel) rfl, jv_Tt 512 (by decide +kernel) rfl, jv_Tt 513 (by decide +kernel) rfl⟩
theorem cb_yX3_takeWord : CB yX3_takeWord cX3_takeWord 2 (some (FieldType.object "RankedSearch$Word")) 0 := ⟨jv_Tt 559 (by decide +kernel) rfl, jv_Tt 7 (by decide +kernel) rfl, by decide +kernel, by decide⟩
theorem cw_X3_40 : CWV RX3 40 yX3_takeWord cX3_takeWord 2 (some (FieldType.object "RankedSearch$Word")) 0 := ⟨cb_yX3_takeWord, jv_Tt 556 (by decide +kernel) rfl, jv_Tt 558 (by decide +kernel) rfl, jv_Tp 9 (by decide +kernel) rfl⟩
theorem cb_yX10_begin : CB yX10_begin cX10_begin 3 (none) 1 := ⟨jv_Tt 594 (by decide +kernel) rfl, jv_Tt 25 (by decide +kernel) rfl, by decide +kernel, by decide⟩
theorem cw_X3_44 : CWV RX3 44 yX10_begin cX10_begin 3 (none) 1 := ⟨cb_yX10_begin, jv_Tt 591 (by decide +kernel) rfl, jv_Tt 592 (by decide +kernel) rfl, jv_Tt 593 (by decide +kernel) rfl⟩
theorem cb_yJx4a65c_add_7a177 : CB yJx4a65c_add_7a177 cJx4a65c_add_7a177 5 (none) 2 := ⟨jv_Tt 598 (by decide +kernel) rfl, jv_Tt 6 (by decide +kernel) rfl, by decide +kernel, by decide⟩
theorem cw_X3_48 : CWV RX3 48 yJx4a65c_add_7a177 cJx4a65c_add_7a177 5 (none) 2 := ⟨cb_yJx4a65c_add_7a177, jv_Tt 595 (by decide +kernel) rfl, jv_Tt 596 (by decide +kernel) rfl, jv_Tt 597 (by decide +kernel) rfl⟩
theorem cb_yJx4a65c_remove_915e3 : CB yJx4a65c_remove_915e3 cJx4a65c_remove_915e3 4 (some (FieldType.object "java/lang/Object")) 1 := ⟨jv_Tt 519 (by decide +kernel) rfl, jv_Tt 6 (by decide +kernel) rfl, by decide +kernel, by decide⟩
theorem cw_X3_52 : CWV RX3 52 yJx4a65c_remove_915e3 cJx4a65c_remove_915e3 4 (some (FieldType.object "java/lang/Object")) 1 := ⟨cb_yJx4a65c_remove_915e3, jv_Tt 516 (by decide +kernel) rfl, jv_Tt 517 (by decide +kernel) rfl, jv_Tt 518 (by decide +kernel) rfl⟩
theorem ml_X4_3 : Cond.methodLink RX4 3 objectInit ∈ jv_T := jv_Tt 62 (by decide +kernel) rfl
theorem cw_X4_11 : CWI RX4 11 yJx4a65c_init_da8c8 cJx4a65c_init_da8c8 1 0 := ⟨cb_yJx4a65c_init_da8c8, jv_Tt 66 (by decide +kernel) rfl, rfl, Or.inl (jv_Tt 65 (by decide +kernel) rfl)⟩
theorem cw_X4_25 : CWV RX4 25 yJx4a65c_size_8abf5 cJx4a65c_size_8abf5 1 (some FieldType.int) 0 := ⟨cb_yJx4a65c_size_8abf5, jv_Tt 385 (by decide +kernel) rfl, jv_Tt 253 (by decide +kernel) rfl, jv_Tt 254 (by decide +kernel) rfl⟩
theorem cb_yX4_indexOf : CB yX4_indexOf cX4_indexOf 4 (some FieldType.int) 1 := ⟨jv_Tt 384 (by decide +kernel) rfl, jv_Tt 3 (by decide +kernel) rfl, by decide +kernel, by decide⟩
theorem cw_X4_29 : CWV RX4 29 yX4_indexOf cX4_indexOf 4 (some FieldType.int) 1 := ⟨cb_yX4_indexOf, jv_Tt 381 (by decide +kernel) rfl, jv_Tt 383 (by decide +kernel) rfl, jv_Tp 1 (by decide +kernel) rfl⟩
theorem cb_yX4_documentAt : CB yX4_documentAt cX4_documentAt 2 (some (FieldType.object "RankedSearch$Document")) 1 := ⟨jv_Tt 389 (by decide +kernel) rfl, jv_Tt 3 (by decide +kernel) rfl, by decide +kernel, by decide⟩
theorem cw_X4_33 : CWV RX4 33 yX4_documentAt cX4_documentAt 2 (some (FieldType.object "RankedSearch$Document")) 1 := ⟨cb_yX4_documentAt, jv_Tt 386 (by decide +kernel) rfl, jv_Tt 388 (by decide +kernel) rfl, jv_Tp 2 (by decide +kernel) rfl⟩
theorem cw_X4_37 : CWV RX4 37 yX4_documentOf cX4_documentOf 2 (some (FieldType.object "RankedSearch$Document")) 1 := ⟨cb_yX4_documentOf, jv_Tt 377 (by decide +kernel) rfl, jv_Tt 378 (by decide +kernel) rfl, jv_Tt 379 (by decide +kernel) rfl⟩
theorem cb_yX1_init : CB yX1_init cX1_init 2 (none) 1 := ⟨jv_Tt 395 (by decide +kernel) rfl, jv_Tt 19 (by decide +kernel) rfl, by decide +kernel, by decide⟩
theorem cw_X4_42 : CWI RX4 42 yX1_init cX1_init 2 1 := ⟨cb_yX1_init, jv_Tt 394 (by decide +kernel) rfl, rfl, Or.inl (jv_Tt 393 (by decide +kernel) rfl)⟩
theorem cb_yJx4a65c_add_9ea2d : CB yJx4a65c_add_9ea2d cJx4a65c_add_9ea2d 2 (some FieldType.boolean) 1 := ⟨jv_Tt 430 (by decide +kernel) rfl, jv_Tt 6 (by decide +kernel) rfl, by decide +kernel, by decide⟩
theorem cw_X4_45 : CWV RX4 45 yJx4a65c_add_9ea2d cJx4a65c_add_9ea2d 2 (some FieldType.boolean) 1 := ⟨cb_yJx4a65c_add_9ea2d, jv_Tt 427 (by decide +kernel) rfl, jv_Tt 428 (by decide +kernel) rfl, jv_Tt 429 (by decide +kernel) rfl⟩
theorem cb_yX4_forgetWords : CB yX4_forgetWords cX4_forgetWords 4 (none) 1 := ⟨jv_Tt 498 (by decide +kernel) rfl, jv_Tt 3 (by decide +kernel) rfl, by decide +kernel, by decide⟩
theorem cw_X4_49 : CWV RX4 49 yX4_forgetWords cX4_forgetWords 4 (none) 1 := ⟨cb_yX4_forgetWords, jv_Tt 495 (by decide +kernel) rfl, jv_Tt 497 (by decide +kernel) rfl, jv_Tp 6 (by decide +kernel) rfl⟩
theorem cw_X4_53 : CWV RX4 53 yJx4a65c_remove_915e3 cJx4a65c_remove_915e3 4 (some (FieldType.object "java/lang/Object")) 1 := ⟨cb_yJx4a65c_remove_915e3, jv_Tt 913 (by decide +kernel) rfl, jv_Tt 517 (by decide +kernel) rfl, jv_Tt 518 (by decide +kernel) rfl⟩
theorem cw_X4_57 : CWV RX4 57 yX8_wordStart cX8_wordStart 3 (some FieldType.int) 1 := ⟨cb_yX8_wordStart, jv_Tt 525 (by decide +kernel) rfl, jv_Tt 526 (by decide +kernel) rfl, jv_Tt 527 (by decide +kernel) rfl⟩
theorem cw_X4_62 : CWV RX4 62 yX8_length cX8_length 1 (some FieldType.int) 0 := ⟨cb_yX8_length, jv_Tt 539 (by decide +kernel) rfl, jv_Tt 237 (by decide +kernel) rfl, jv_Tt 238 (by decide +kernel) rfl⟩
theorem cw_X4_65 : CWV RX4 65 yX8_wordEnd cX8_wordEnd 3 (some FieldType.int) 1 := ⟨cb_yX8_wordEnd, jv_Tt 540 (by decide +kernel) rfl, jv_Tt 541 (by decide +kernel) rfl, jv_Tt 542 (by decide +kernel) rfl⟩
theorem cw_X4_68 : CWV RX4 68 yX8_lettersOf cX8_lettersOf 6 (some FieldType.long) 2 := ⟨cb_yX8_lettersOf, jv_Tt 544 (by decide +kernel) rfl, jv_Tt 545 (by decide +kernel) rfl, jv_Tt 546 (by decide +kernel) rfl⟩
theorem cb_yX3_enter : CB yX3_enter cX3_enter 6 (some (FieldType.object "RankedSearch$Word")) 1 := ⟨jv_Tt 555 (by decide +kernel) rfl, jv_Tt 7 (by decide +kernel) rfl, by decide +kernel, by decide⟩
theorem cw_X4_72 : CWV RX4 72 yX3_enter cX3_enter 6 (some (FieldType.object "RankedSearch$Word")) 1 := ⟨cb_yX3_enter, jv_Tt 552 (by decide +kernel) rfl, jv_Tt 553 (by decide +kernel) rfl, jv_Tt 554 (by decide +kernel) rfl⟩
theorem cb_yX4_count : CB yX4_count cX4_count 4 (none) 2 := ⟨jv_Tt 856 (by decide +kernel) rfl, jv_Tt 3 (by decide +kernel) rfl, by decide +kernel, by decide⟩
theorem cw_X4_76 : CWV RX4 76 yX4_count cX4_count 4 (none) 2 := ⟨cb_yX4_count, jv_Tt 853 (by decide +kernel) rfl, jv_Tt 855 (by decide +kernel) rfl, jv_Tp 12 (by decide +kernel) rfl⟩
theorem cw_X4_86 : CWV RX4 86 yJx4a65c_get_915e3 cJx4a65c_get_915e3 2 (some (FieldType.object "java/lang/Object")) 1 := ⟨cb_yJx4a65c_get_915e3, jv_Tt 390 (by decide +kernel) rfl, jv_Tt 257 (by decide +kernel) rfl, jv_Tt 258 (by decide +kernel) rfl⟩
theorem cb_yX4_post : CB yX4_post cX4_post 4 (some (FieldType.object "RankedSearch$Posting")) 2 := ⟨jv_Tt 860 (by decide +kernel) rfl, jv_Tt 3 (by decide +kernel) rfl, by decide +kernel, by decide⟩
theorem cw_X4_102 : CWV RX4 102 yX4_post cX4_post 4 (some (FieldType.object "RankedSearch$Posting")) 2 := ⟨cb_yX4_post, jv_Tt 857 (by decide +kernel) rfl, jv_Tt 859 (by decide +kernel) rfl, jv_Tp 13 (by decide +kernel) rfl⟩
theorem cb_yX4_takePosting : CB yX4_takePosting cX4_takePosting 2 (some (FieldType.object "RankedSearch$Posting")) 0 := ⟨jv_Tt 864 (by decide +kernel) rfl, jv_Tt 3 (by decide +kernel) rfl, by decide +kernel, by decide⟩
theorem cw_X4_117 : CWV RX4 117 yX4_takePosting cX4_takePosting 2 (some (FieldType.object "RankedSearch$Posting")) 0 := ⟨cb_yX4_takePosting, jv_Tt 861 (by decide +kernel) rfl, jv_Tt 863 (by decide +kernel) rfl, jv_Tp 14 (by decide +kernel) rfl⟩
theorem cb_yX10_link : CB yX10_link cX10_link 2 (none) 1 := ⟨jv_Tt 901 (by decide +kernel) rfl, jv_Tt 25 (by decide +kernel) rfl, by decide +kernel, by decide⟩
theorem cw_X4_129 : CWV RX4 129 yX10_link cX10_link 2 (none) 1 := ⟨cb_yX10_link, jv_Tt 898 (by decide +kernel) rfl, jv_Tt 899 (by decide +kernel) rfl, jv_Tt 900 (by decide +kernel) rfl⟩
theorem cb_yX4_release : CB yX4_release cX4_release 3 (none) 1 := ⟨jv_Tt 502 (by decide +kernel) rfl, jv_Tt 3 (by decide +kernel) rfl, by decide +kernel, by decide⟩
theorem cw_X4_133 : CWV RX4 133 yX4_release cX4_release 3 (none) 1 := ⟨cb_yX4_release, jv_Tt 499 (by decide +kernel) rfl, jv_Tt 501 (by decide +kernel) rfl, jv_Tp 7 (by decide +kernel) rfl⟩
theorem cb_yX10_unlink : CB yX10_unlink cX10_unlink 2 (none) 1 := ⟨jv_Tt 506 (by decide +kernel) rfl, jv_Tt 25 (by decide +kernel) rfl, by decide +kernel, by decide⟩
theorem cw_X4_136 : CWV RX4 136 yX10_unlink cX10_unlink 2 (none) 1 := ⟨cb_yX10_unlink, jv_Tt 503 (by decide +kernel) rfl, jv_Tt 504 (by decide +kernel) rfl, jv_Tt 505 (by decide +kernel) rfl⟩
theorem cb_yX3_strike : CB yX3_strike cX3_strike 3 (none) 1 := ⟨jv_Tt 510 (by decide +kernel) rfl, jv_Tt 7 (by decide +kernel) rfl, by decide +kernel, by decide⟩
theorem cw_X4_139 : CWV RX4 139 yX3_strike cX3_strike 3 (none) 1 := ⟨cb_yX3_strike, jv_Tt 507 (by decide +kernel) rfl, jv_Tt 508 (by decide +kernel) rfl, jv_Tt 509 (by decide +kernel) rfl⟩
theorem ml_X5_1 : Cond.methodLink RX5 1 objectInit ∈ jv_T := jv_Tt 870 (by decide +kernel) rfl
theorem ml_X6_3 : Cond.methodLink RX6 3 objectInit ∈ jv_T := jv_Tt 125 (by decide +kernel) rfl
theorem cw_X6_35 : CWV RX6 35 yX8_length cX8_length 1 (some FieldType.int) 0 := ⟨cb_yX8_length, jv_Tt 969 (by decide +kernel) rfl, jv_Tt 237 (by decide +kernel) rfl, jv_Tt 238 (by decide +kernel) rfl⟩
theorem cb_yX8_byteAt : CB yX8_byteAt cX8_byteAt 2 (some FieldType.int) 1 := ⟨jv_Tt 532 (by decide +kernel) rfl, jv_Tt 2 (by decide +kernel) rfl, by decide +kernel, by decide⟩
theorem cw_X6_41 : CWV RX6 41 yX8_byteAt cX8_byteAt 2 (some FieldType.int) 1 := ⟨cb_yX8_byteAt, jv_Tt 970 (by decide +kernel) rfl, jv_Tt 530 (by decide +kernel) rfl, jv_Tt 531 (by decide +kernel) rfl⟩
theorem cb_yX6_take : CB yX6_take cX6_take 2 (some FieldType.int) 1 := ⟨jv_Tt 974 (by decide +kernel) rfl, jv_Tt 8 (by decide +kernel) rfl, by decide +kernel, by decide⟩
theorem cw_X6_45 : CWV RX6 45 yX6_take cX6_take 2 (some FieldType.int) 1 := ⟨cb_yX6_take, jv_Tt 971 (by decide +kernel) rfl, jv_Tt 973 (by decide +kernel) rfl, jv_Tp 15 (by decide +kernel) rfl⟩
theorem cb_yX6_note : CB yX6_note cX6_note 3 (none) 2 := ⟨jv_Tt 1013 (by decide +kernel) rfl, jv_Tt 8 (by decide +kernel) rfl, by decide +kernel, by decide⟩
theorem cw_X6_48 : CWV RX6 48 yX6_note cX6_note 3 (none) 2 := ⟨cb_yX6_note, jv_Tt 1010 (by decide +kernel) rfl, jv_Tt 1012 (by decide +kernel) rfl, jv_Tp 22 (by decide +kernel) rfl⟩
theorem cb_yX6_takeBetweenTerms : CB yX6_takeBetweenTerms cX6_takeBetweenTerms 3 (some FieldType.int) 1 := ⟨jv_Tt 978 (by decide +kernel) rfl, jv_Tt 8 (by decide +kernel) rfl, by decide +kernel, by decide⟩
theorem cw_X6_52 : CWV RX6 52 yX6_takeBetweenTerms cX6_takeBetweenTerms 3 (some FieldType.int) 1 := ⟨cb_yX6_takeBetweenTerms, jv_Tt 975 (by decide +kernel) rfl, jv_Tt 977 (by decide +kernel) rfl, jv_Tp 16 (by decide +kernel) rfl⟩
theorem cb_yX6_takeLetter : CB yX6_takeLetter cX6_takeLetter 2 (some FieldType.int) 1 := ⟨jv_Tt 991 (by decide +kernel) rfl, jv_Tt 8 (by decide +kernel) rfl, by decide +kernel, by decide⟩
theorem cw_X6_55 : CWV RX6 55 yX6_takeLetter cX6_takeLetter 2 (some FieldType.int) 1 := ⟨cb_yX6_takeLetter, jv_Tt 988 (by decide +kernel) rfl, jv_Tt 990 (by decide +kernel) rfl, jv_Tp 18 (by decide +kernel) rfl⟩
theorem cb_yX6_takeBehindLetter : CB yX6_takeBehindLetter cX6_takeBehindLetter 2 (some FieldType.int) 1 := ⟨jv_Tt 1001 (by decide +kernel) rfl, jv_Tt 8 (by decide +kernel) rfl, by decide +kernel, by decide⟩
theorem cw_X6_58 : CWV RX6 58 yX6_takeBehindLetter cX6_takeBehindLetter 2 (some FieldType.int) 1 := ⟨cb_yX6_takeBehindLetter, jv_Tt 998 (by decide +kernel) rfl, jv_Tt 1000 (by decide +kernel) rfl, jv_Tp 19 (by decide +kernel) rfl⟩
theorem cb_yX6_takeBehindStar : CB yX6_takeBehindStar cX6_takeBehindStar 2 (some FieldType.int) 1 := ⟨jv_Tt 1005 (by decide +kernel) rfl, jv_Tt 8 (by decide +kernel) rfl, by decide +kernel, by decide⟩
theorem cw_X6_61 : CWV RX6 61 yX6_takeBehindStar cX6_takeBehindStar 2 (some FieldType.int) 1 := ⟨cb_yX6_takeBehindStar, jv_Tt 1002 (by decide +kernel) rfl, jv_Tt 1004 (by decide +kernel) rfl, jv_Tp 20 (by decide +kernel) rfl⟩
theorem cb_yX6_takeFigure : CB yX6_takeFigure cX6_takeFigure 2 (some FieldType.int) 1 := ⟨jv_Tt 1009 (by decide +kernel) rfl, jv_Tt 8 (by decide +kernel) rfl, by decide +kernel, by decide⟩
theorem cw_X6_64 : CWV RX6 64 yX6_takeFigure cX6_takeFigure 2 (some FieldType.int) 1 := ⟨cb_yX6_takeFigure, jv_Tt 1006 (by decide +kernel) rfl, jv_Tt 1008 (by decide +kernel) rfl, jv_Tp 21 (by decide +kernel) rfl⟩
theorem cb_yX6_takeBlank : CB yX6_takeBlank cX6_takeBlank 2 (some FieldType.int) 1 := ⟨jv_Tt 983 (by decide +kernel) rfl, jv_Tt 8 (by decide +kernel) rfl, by decide +kernel, by decide⟩
theorem cw_X6_67 : CWV RX6 67 yX6_takeBlank cX6_takeBlank 2 (some FieldType.int) 1 := ⟨cb_yX6_takeBlank, jv_Tt 980 (by decide +kernel) rfl, jv_Tt 982 (by decide +kernel) rfl, jv_Tp 17 (by decide +kernel) rfl⟩
theorem cb_yX2_isLetter : CB yX2_isLetter cX2_isLetter 1 (some FieldType.boolean) 1 := ⟨jv_Tt 535 (by decide +kernel) rfl, jv_Tt 24 (by decide +kernel) rfl, by decide +kernel, by decide⟩
theorem cw_X6_70 : CWS RX6 70 yX2_isLetter cX2_isLetter 1 (some FieldType.boolean) 1 := ⟨cb_yX2_isLetter, jv_Tt 979 (by decide +kernel) rfl, jv_Tt 534 (by decide +kernel) rfl⟩
theorem cb_yX9_begin : CB yX9_begin cX9_begin 1 (none) 0 := ⟨jv_Tt 987 (by decide +kernel) rfl, jv_Tt 9 (by decide +kernel) rfl, by decide +kernel, by decide⟩
theorem cw_X6_76 : CWV RX6 76 yX9_begin cX9_begin 1 (none) 0 := ⟨cb_yX9_begin, jv_Tt 984 (by decide +kernel) rfl, jv_Tt 985 (by decide +kernel) rfl, jv_Tt 986 (by decide +kernel) rfl⟩
theorem cw_X6_86 : CWS RX6 86 yX2_letterOf cX2_letterOf 1 (some FieldType.int) 1 := ⟨cb_yX2_letterOf, jv_Tt 992 (by decide +kernel) rfl, jv_Tt 537 (by decide +kernel) rfl⟩
theorem cb_yX9_append : CB yX9_append cX9_append 2 (some FieldType.boolean) 1 := ⟨jv_Tt 996 (by decide +kernel) rfl, jv_Tt 9 (by decide +kernel) rfl, by decide +kernel, by decide⟩
theorem cw_X6_89 : CWV RX6 89 yX9_append cX9_append 2 (some FieldType.boolean) 1 := ⟨cb_yX9_append, jv_Tt 993 (by decide +kernel) rfl, jv_Tt 994 (by decide +kernel) rfl, jv_Tt 995 (by decide +kernel) rfl⟩
theorem ml_X7_3 : Cond.methodLink RX7 3 objectInit ∈ jv_T := jv_Tt 187 (by decide +kernel) rfl
theorem cb_yX6_termAt : CB yX6_termAt cX6_termAt 2 (some (FieldType.object "RankedSearch$Term")) 1 := ⟨jv_Tt 1021 (by decide +kernel) rfl, jv_Tt 8 (by decide +kernel) rfl, by decide +kernel, by decide⟩
theorem cw_X7_20 : CWV RX7 20 yX6_termAt cX6_termAt 2 (some (FieldType.object "RankedSearch$Term")) 1 := ⟨cb_yX6_termAt, jv_Tt 1018 (by decide +kernel) rfl, jv_Tt 1019 (by decide +kernel) rfl, jv_Tt 1020 (by decide +kernel) rfl⟩
theorem cb_yX7_follow : CB yX7_follow cX7_follow 9 (none) 3 := ⟨jv_Tt 1025 (by decide +kernel) rfl, jv_Tt 10 (by decide +kernel) rfl, by decide +kernel, by decide⟩
theorem cw_X7_24 : CWV RX7 24 yX7_follow cX7_follow 9 (none) 3 := ⟨cb_yX7_follow, jv_Tt 1022 (by decide +kernel) rfl, jv_Tt 1024 (by decide +kernel) rfl, jv_Tp 23 (by decide +kernel) rfl⟩
theorem cb_yX7_harvest : CB yX7_harvest cX7_harvest 4 (none) 1 := ⟨jv_Tt 1056 (by decide +kernel) rfl, jv_Tt 10 (by decide +kernel) rfl, by decide +kernel, by decide⟩
theorem cw_X7_28 : CWV RX7 28 yX7_harvest cX7_harvest 4 (none) 1 := ⟨cb_yX7_harvest, jv_Tt 1053 (by decide +kernel) rfl, jv_Tt 1055 (by decide +kernel) rfl, jv_Tp 27 (by decide +kernel) rfl⟩
theorem cb_yX7_meet : CB yX7_meet cX7_meet 2 (none) 1 := ⟨jv_Tt 1043 (by decide +kernel) rfl, jv_Tt 10 (by decide +kernel) rfl, by decide +kernel, by decide⟩
theorem cw_X7_32 : CWV RX7 32 yX7_meet cX7_meet 2 (none) 1 := ⟨cb_yX7_meet, jv_Tt 1040 (by decide +kernel) rfl, jv_Tt 1042 (by decide +kernel) rfl, jv_Tp 25 (by decide +kernel) rfl⟩
theorem cw_X7_55 : CWS RX7 55 yJ9_min_7cf53 cJ9_min_7cf53 2 (some FieldType.int) 2 := ⟨cb_yJ9_min_7cf53, jv_Tt 1090 (by decide +kernel) rfl, jv_Tt 484 (by decide +kernel) rfl⟩
theorem cw_X7_61 : CWV RX7 61 yX4_rarity cX4_rarity 4 (some FieldType.int) 1 := ⟨cb_yX4_rarity, jv_Tt 1044 (by decide +kernel) rfl, jv_Tt 945 (by decide +kernel) rfl, jv_Tt 946 (by decide +kernel) rfl⟩
theorem cb_yX7_reward : CB yX7_reward cX7_reward 6 (none) 3 := ⟨jv_Tt 1048 (by decide +kernel) rfl, jv_Tt 10 (by decide +kernel) rfl, by decide +kernel, by decide⟩
theorem cw_X7_67 : CWV RX7 67 yX7_reward cX7_reward 6 (none) 3 := ⟨cb_yX7_reward, jv_Tt 1045 (by decide +kernel) rfl, jv_Tt 1047 (by decide +kernel) rfl, jv_Tp 26 (by decide +kernel) rfl⟩
theorem cb_yX9_lastLetters : CB yX9_lastLetters cX9_lastLetters 1 (some FieldType.long) 0 := ⟨jv_Tt 1029 (by decide +kernel) rfl, jv_Tt 9 (by decide +kernel) rfl, by decide +kernel, by decide⟩
theorem cw_X7_83 : CWV RX7 83 yX9_lastLetters cX9_lastLetters 1 (some FieldType.long) 0 := ⟨cb_yX9_lastLetters, jv_Tt 1026 (by decide +kernel) rfl, jv_Tt 1027 (by decide +kernel) rfl, jv_Tt 1028 (by decide +kernel) rfl⟩
theorem cw_X7_91 : CWV RX7 91 yX3_placeOf cX3_placeOf 8 (some FieldType.int) 1 := ⟨cb_yX3_placeOf, jv_Tt 1033 (by decide +kernel) rfl, jv_Tt 512 (by decide +kernel) rfl, jv_Tt 513 (by decide +kernel) rfl⟩
theorem cw_X7_97 : CWV RX7 97 yX3_size cX3_size 1 (some FieldType.int) 0 := ⟨cb_yX3_size, jv_Tt 1034 (by decide +kernel) rfl, jv_Tt 926 (by decide +kernel) rfl, jv_Tt 927 (by decide +kernel) rfl⟩
theorem cw_X7_101 : CWV RX7 101 yX3_wordAt cX3_wordAt 2 (some (FieldType.object "RankedSearch$Word")) 1 := ⟨cb_yX3_wordAt, jv_Tt 1035 (by decide +kernel) rfl, jv_Tt 249 (by decide +kernel) rfl, jv_Tt 250 (by decide +kernel) rfl⟩
theorem cb_yX7_bar : CB yX7_bar cX7_bar 4 (none) 1 := ⟨jv_Tt 1039 (by decide +kernel) rfl, jv_Tt 10 (by decide +kernel) rfl, by decide +kernel, by decide⟩
theorem cw_X7_111 : CWV RX7 111 yX7_bar cX7_bar 4 (none) 1 := ⟨cb_yX7_bar, jv_Tt 1036 (by decide +kernel) rfl, jv_Tt 1038 (by decide +kernel) rfl, jv_Tp 24 (by decide +kernel) rfl⟩
theorem cb_yX5_impact : CB yX5_impact cX5_impact 2 (some FieldType.int) 0 := ⟨jv_Tt 1052 (by decide +kernel) rfl, jv_Tt 34 (by decide +kernel) rfl, by decide +kernel, by decide⟩
theorem cw_X7_129 : CWV RX7 129 yX5_impact cX5_impact 2 (some FieldType.int) 0 := ⟨cb_yX5_impact, jv_Tt 1049 (by decide +kernel) rfl, jv_Tt 1050 (by decide +kernel) rfl, jv_Tt 1051 (by decide +kernel) rfl⟩
theorem cb_yX0_offer : CB yX0_offer cX0_offer 5 (none) 2 := ⟨jv_Tt 1060 (by decide +kernel) rfl, jv_Tt 11 (by decide +kernel) rfl, by decide +kernel, by decide⟩
theorem cw_X7_147 : CWV RX7 147 yX0_offer cX0_offer 5 (none) 2 := ⟨cb_yX0_offer, jv_Tt 1057 (by decide +kernel) rfl, jv_Tt 1058 (by decide +kernel) rfl, jv_Tt 1059 (by decide +kernel) rfl⟩
theorem ml_X8_3 : Cond.methodLink RX8 3 objectInit ∈ jv_T := jv_Tt 48 (by decide +kernel) rfl
theorem cw_X8_19 : CWV RX8 19 yX8_byteAt cX8_byteAt 2 (some FieldType.int) 1 := ⟨cb_yX8_byteAt, jv_Tt 529 (by decide +kernel) rfl, jv_Tt 530 (by decide +kernel) rfl, jv_Tt 531 (by decide +kernel) rfl⟩
theorem cw_X8_23 : CWS RX8 23 yX2_isLetter cX2_isLetter 1 (some FieldType.boolean) 1 := ⟨cb_yX2_isLetter, jv_Tt 533 (by decide +kernel) rfl, jv_Tt 534 (by decide +kernel) rfl⟩
theorem cw_X8_29 : CWS RX8 29 yX2_letterOf cX2_letterOf 1 (some FieldType.int) 1 := ⟨cb_yX2_letterOf, jv_Tt 548 (by decide +kernel) rfl, jv_Tt 537 (by decide +kernel) rfl⟩
theorem cb_yX2_with : CB yX2_with cX2_with 4 (some FieldType.long) 3 := ⟨jv_Tt 551 (by decide +kernel) rfl, jv_Tt 24 (by decide +kernel) rfl, by decide +kernel, by decide⟩
theorem cw_X8_32 : CWS RX8 32 yX2_with cX2_with 4 (some FieldType.long) 3 := ⟨cb_yX2_with, jv_Tt 549 (by decide +kernel) rfl, jv_Tt 550 (by decide +kernel) rfl⟩
theorem ml_X9_3 : Cond.methodLink RX9 3 objectInit ∈ jv_T := jv_Tt 132 (by decide +kernel) rfl
theorem cw_X9_32 : CWS RX9 32 yX2_with cX2_with 4 (some FieldType.long) 3 := ⟨cb_yX2_with, jv_Tt 997 (by decide +kernel) rfl, jv_Tt 550 (by decide +kernel) rfl⟩
theorem cb_yX2_lastWithBeginning : CB yX2_lastWithBeginning cX2_lastWithBeginning 3 (some FieldType.long) 2 := ⟨jv_Tt 1032 (by decide +kernel) rfl, jv_Tt 24 (by decide +kernel) rfl, by decide +kernel, by decide⟩
theorem cw_X9_38 : CWS RX9 38 yX2_lastWithBeginning cX2_lastWithBeginning 3 (some FieldType.long) 2 := ⟨cb_yX2_lastWithBeginning, jv_Tt 1030 (by decide +kernel) rfl, jv_Tt 1031 (by decide +kernel) rfl⟩
theorem ml_X10_1 : Cond.methodLink RX10 1 objectInit ∈ jv_T := jv_Tt 564 (by decide +kernel) rfl
theorem cb_yX11_feed : CB yX11_feed cX11_feed 4 (some FieldType.int) 2 := ⟨jv_Tt 291 (by decide +kernel) rfl, jv_Tt 1 (by decide +kernel) rfl, by decide +kernel, by decide⟩
theorem cw_L_7 : CWV RL 7 yX11_feed cX11_feed 4 (some FieldType.int) 2 := ⟨cb_yX11_feed, jv_Tt 288 (by decide +kernel) rfl, jv_Tt 289 (by decide +kernel) rfl, jv_Tt 290 (by decide +kernel) rfl⟩
theorem cb_yX11_put : CB yX11_put cX11_put 3 (some FieldType.int) 1 := ⟨jv_Tt 368 (by decide +kernel) rfl, jv_Tt 1 (by decide +kernel) rfl, by decide +kernel, by decide⟩
theorem cw_L_15 : CWV RL 15 yX11_put cX11_put 3 (some FieldType.int) 1 := ⟨cb_yX11_put, jv_Tt 365 (by decide +kernel) rfl, jv_Tt 366 (by decide +kernel) rfl, jv_Tt 367 (by decide +kernel) rfl⟩
theorem cb_yX11_drop : CB yX11_drop cX11_drop 2 (some FieldType.boolean) 1 := ⟨jv_Tt 908 (by decide +kernel) rfl, jv_Tt 1 (by decide +kernel) rfl, by decide +kernel, by decide⟩
theorem cw_L_19 : CWV RL 19 yX11_drop cX11_drop 2 (some FieldType.boolean) 1 := ⟨cb_yX11_drop, jv_Tt 905 (by decide +kernel) rfl, jv_Tt 906 (by decide +kernel) rfl, jv_Tt 907 (by decide +kernel) rfl⟩
theorem cb_yX11_told : CB yX11_told cX11_told 2 (some FieldType.int) 1 := ⟨jv_Tt 920 (by decide +kernel) rfl, jv_Tt 1 (by decide +kernel) rfl, by decide +kernel, by decide⟩
theorem cw_L_23 : CWV RL 23 yX11_told cX11_told 2 (some FieldType.int) 1 := ⟨cb_yX11_told, jv_Tt 917 (by decide +kernel) rfl, jv_Tt 918 (by decide +kernel) rfl, jv_Tt 919 (by decide +kernel) rfl⟩
theorem cb_yX11_about : CB yX11_about cX11_about 4 (some FieldType.int) 1 := ⟨jv_Tt 936 (by decide +kernel) rfl, jv_Tt 1 (by decide +kernel) rfl, by decide +kernel, by decide⟩
theorem cw_L_26 : CWV RL 26 yX11_about cX11_about 4 (some FieldType.int) 1 := ⟨cb_yX11_about, jv_Tt 933 (by decide +kernel) rfl, jv_Tt 934 (by decide +kernel) rfl, jv_Tt 935 (by decide +kernel) rfl⟩
theorem cb_yX11_find : CB yX11_find cX11_find 2 (some FieldType.int) 1 := ⟨jv_Tt 954 (by decide +kernel) rfl, jv_Tt 1 (by decide +kernel) rfl, by decide +kernel, by decide⟩
theorem cw_L_29 : CWV RL 29 yX11_find cX11_find 2 (some FieldType.int) 1 := ⟨cb_yX11_find, jv_Tt 951 (by decide +kernel) rfl, jv_Tt 952 (by decide +kernel) rfl, jv_Tt 953 (by decide +kernel) rfl⟩
theorem cb_yX11_similar : CB yX11_similar cX11_similar 4 (some FieldType.int) 2 := ⟨jv_Tt 1083 (by decide +kernel) rfl, jv_Tt 1 (by decide +kernel) rfl, by decide +kernel, by decide⟩
theorem cw_L_32 : CWV RL 32 yX11_similar cX11_similar 4 (some FieldType.int) 2 := ⟨cb_yX11_similar, jv_Tt 1080 (by decide +kernel) rfl, jv_Tt 1081 (by decide +kernel) rfl, jv_Tt 1082 (by decide +kernel) rfl⟩
theorem cb_yX11_hit : CB yX11_hit cX11_hit 2 (some FieldType.int) 1 := ⟨jv_Tt 1098 (by decide +kernel) rfl, jv_Tt 1 (by decide +kernel) rfl, by decide +kernel, by decide⟩
theorem cw_L_36 : CWV RL 36 yX11_hit cX11_hit 2 (some FieldType.int) 1 := ⟨cb_yX11_hit, jv_Tt 1095 (by decide +kernel) rfl, jv_Tt 1096 (by decide +kernel) rfl, jv_Tt 1097 (by decide +kernel) rfl⟩
theorem cb_yX11_score : CB yX11_score cX11_score 2 (some FieldType.int) 1 := ⟨jv_Tt 1113 (by decide +kernel) rfl, jv_Tt 1 (by decide +kernel) rfl, by decide +kernel, by decide⟩
theorem cw_L_41 : CWV RL 41 yX11_score cX11_score 2 (some FieldType.int) 1 := ⟨cb_yX11_score, jv_Tt 1110 (by decide +kernel) rfl, jv_Tt 1111 (by decide +kernel) rfl, jv_Tt 1112 (by decide +kernel) rfl⟩
theorem cb_yX11_init : CB yX11_init cX11_init 1 (none) 0 := ⟨jv_Tt 39 (by decide +kernel) rfl, jv_Tt 1 (by decide +kernel) rfl, by decide +kernel, by decide⟩
theorem cw_L_44 : CWI RL 44 yX11_init cX11_init 1 0 := ⟨cb_yX11_init, jv_Tt 38 (by decide +kernel) rfl, rfl, Or.inl (jv_Tt 37 (by decide +kernel) rfl)⟩
theorem cb_yX12_init : CB yX12_init cX12_init 1 (none) 0 := ⟨jv_Tt 1119 (by decide +kernel) rfl, jv_Tt 12 (by decide +kernel) rfl, by decide +kernel, by decide⟩
theorem cw_L_47 : CWI RL 47 yX12_init cX12_init 1 0 := ⟨cb_yX12_init, jv_Tt 1118 (by decide +kernel) rfl, rfl, Or.inl (jv_Tt 1117 (by decide +kernel) rfl)⟩
theorem cb_yX12_feed : CB yX12_feed cX12_feed 5 (some FieldType.int) 2 := ⟨jv_Tt 1213 (by decide +kernel) rfl, jv_Tt 12 (by decide +kernel) rfl, by decide +kernel, by decide⟩
theorem cw_L_55 : CWV RL 55 yX12_feed cX12_feed 5 (some FieldType.int) 2 := ⟨cb_yX12_feed, jv_Tt 1210 (by decide +kernel) rfl, jv_Tt 1211 (by decide +kernel) rfl, jv_Tt 1212 (by decide +kernel) rfl⟩
theorem cb_yX12_thrown : CB yX12_thrown cX12_thrown 1 (some FieldType.int) 0 := ⟨jv_Tt 1209 (by decide +kernel) rfl, jv_Tt 12 (by decide +kernel) rfl, by decide +kernel, by decide⟩
theorem cw_L_56 : CWV RL 56 yX12_thrown cX12_thrown 1 (some FieldType.int) 0 := ⟨cb_yX12_thrown, jv_Tt 1206 (by decide +kernel) rfl, jv_Tt 1207 (by decide +kernel) rfl, jv_Tt 1208 (by decide +kernel) rfl⟩
theorem cb_yX11_wipe : CB yX11_wipe cX11_wipe 2 (some FieldType.int) 0 := ⟨jv_Tt 235 (by decide +kernel) rfl, jv_Tt 1 (by decide +kernel) rfl, by decide +kernel, by decide⟩
theorem cw_L_60 : CWV RL 60 yX11_wipe cX11_wipe 2 (some FieldType.int) 0 := ⟨cb_yX11_wipe, jv_Tt 232 (by decide +kernel) rfl, jv_Tt 233 (by decide +kernel) rfl, jv_Tt 234 (by decide +kernel) rfl⟩
theorem cb_yX12_wipe : CB yX12_wipe cX12_wipe 2 (some FieldType.int) 0 := ⟨jv_Tt 1218 (by decide +kernel) rfl, jv_Tt 12 (by decide +kernel) rfl, by decide +kernel, by decide⟩
theorem cw_L_63 : CWV RL 63 yX12_wipe cX12_wipe 2 (some FieldType.int) 0 := ⟨cb_yX12_wipe, jv_Tt 1215 (by decide +kernel) rfl, jv_Tt 1216 (by decide +kernel) rfl, jv_Tt 1217 (by decide +kernel) rfl⟩
theorem cb_yX12_put : CB yX12_put cX12_put 4 (some FieldType.int) 1 := ⟨jv_Tt 1222 (by decide +kernel) rfl, jv_Tt 12 (by decide +kernel) rfl, by decide +kernel, by decide⟩
theorem cw_L_67 : CWV RL 67 yX12_put cX12_put 4 (some FieldType.int) 1 := ⟨cb_yX12_put, jv_Tt 1219 (by decide +kernel) rfl, jv_Tt 1220 (by decide +kernel) rfl, jv_Tt 1221 (by decide +kernel) rfl⟩
theorem cb_yX12_drop : CB yX12_drop cX12_drop 3 (some FieldType.boolean) 1 := ⟨jv_Tt 1247 (by decide +kernel) rfl, jv_Tt 12 (by decide +kernel) rfl, by decide +kernel, by decide⟩
theorem cw_L_70 : CWV RL 70 yX12_drop cX12_drop 3 (some FieldType.boolean) 1 := ⟨cb_yX12_drop, jv_Tt 1244 (by decide +kernel) rfl, jv_Tt 1245 (by decide +kernel) rfl, jv_Tt 1246 (by decide +kernel) rfl⟩
theorem cb_yX12_told : CB yX12_told cX12_told 6 (some FieldType.int) 1 := ⟨jv_Tt 1251 (by decide +kernel) rfl, jv_Tt 12 (by decide +kernel) rfl, by decide +kernel, by decide⟩
theorem cw_L_73 : CWV RL 73 yX12_told cX12_told 6 (some FieldType.int) 1 := ⟨cb_yX12_told, jv_Tt 1248 (by decide +kernel) rfl, jv_Tt 1249 (by decide +kernel) rfl, jv_Tt 1250 (by decide +kernel) rfl⟩
theorem cb_yX11_word : CB yX11_word cX11_word 3 (some FieldType.long) 1 := ⟨jv_Tt 247 (by decide +kernel) rfl, jv_Tt 1 (by decide +kernel) rfl, by decide +kernel, by decide⟩
theorem cw_L_74 : CWV RL 74 yX11_word cX11_word 3 (some FieldType.long) 1 := ⟨cb_yX11_word, jv_Tt 244 (by decide +kernel) rfl, jv_Tt 245 (by decide +kernel) rfl, jv_Tt 246 (by decide +kernel) rfl⟩
theorem cb_yX12_word : CB yX12_word cX12_word 7 (some FieldType.long) 1 := ⟨jv_Tt 1260 (by decide +kernel) rfl, jv_Tt 12 (by decide +kernel) rfl, by decide +kernel, by decide⟩
theorem cw_L_78 : CWV RL 78 yX12_word cX12_word 7 (some FieldType.long) 1 := ⟨cb_yX12_word, jv_Tt 1257 (by decide +kernel) rfl, jv_Tt 1258 (by decide +kernel) rfl, jv_Tt 1259 (by decide +kernel) rfl⟩
theorem cb_yX12_about : CB yX12_about cX12_about 4 (some FieldType.int) 1 := ⟨jv_Tt 1265 (by decide +kernel) rfl, jv_Tt 12 (by decide +kernel) rfl, by decide +kernel, by decide⟩
theorem cw_L_81 : CWV RL 81 yX12_about cX12_about 4 (some FieldType.int) 1 := ⟨cb_yX12_about, jv_Tt 1262 (by decide +kernel) rfl, jv_Tt 1263 (by decide +kernel) rfl, jv_Tt 1264 (by decide +kernel) rfl⟩
theorem cb_yX12_find : CB yX12_find cX12_find 2 (some FieldType.int) 1 := ⟨jv_Tt 1302 (by decide +kernel) rfl, jv_Tt 12 (by decide +kernel) rfl, by decide +kernel, by decide⟩
theorem cw_L_84 : CWV RL 84 yX12_find cX12_find 2 (some FieldType.int) 1 := ⟨cb_yX12_find, jv_Tt 1299 (by decide +kernel) rfl, jv_Tt 1300 (by decide +kernel) rfl, jv_Tt 1301 (by decide +kernel) rfl⟩
theorem cb_yX11_fault : CB yX11_fault cX11_fault 1 (some FieldType.int) 0 := ⟨jv_Tt 279 (by decide +kernel) rfl, jv_Tt 1 (by decide +kernel) rfl, by decide +kernel, by decide⟩
theorem cw_L_85 : CWV RL 85 yX11_fault cX11_fault 1 (some FieldType.int) 0 := ⟨cb_yX11_fault, jv_Tt 276 (by decide +kernel) rfl, jv_Tt 277 (by decide +kernel) rfl, jv_Tt 278 (by decide +kernel) rfl⟩
theorem cb_yX12_fault : CB yX12_fault cX12_fault 1 (some FieldType.int) 0 := ⟨jv_Tt 1349 (by decide +kernel) rfl, jv_Tt 12 (by decide +kernel) rfl, by decide +kernel, by decide⟩
theorem cw_L_88 : CWV RL 88 yX12_fault cX12_fault 1 (some FieldType.int) 0 := ⟨cb_yX12_fault, jv_Tt 1346 (by decide +kernel) rfl, jv_Tt 1347 (by decide +kernel) rfl, jv_Tt 1348 (by decide +kernel) rfl⟩
theorem cb_yX11_place : CB yX11_place cX11_place 1 (some FieldType.int) 0 := ⟨jv_Tt 283 (by decide +kernel) rfl, jv_Tt 1 (by decide +kernel) rfl, by decide +kernel, by decide⟩
theorem cw_L_89 : CWV RL 89 yX11_place cX11_place 1 (some FieldType.int) 0 := ⟨cb_yX11_place, jv_Tt 280 (by decide +kernel) rfl, jv_Tt 281 (by decide +kernel) rfl, jv_Tt 282 (by decide +kernel) rfl⟩
theorem cb_yX12_place : CB yX12_place cX12_place 1 (some FieldType.int) 0 := ⟨jv_Tt 1353 (by decide +kernel) rfl, jv_Tt 12 (by decide +kernel) rfl, by decide +kernel, by decide⟩
theorem cw_L_92 : CWV RL 92 yX12_place cX12_place 1 (some FieldType.int) 0 := ⟨cb_yX12_place, jv_Tt 1350 (by decide +kernel) rfl, jv_Tt 1351 (by decide +kernel) rfl, jv_Tt 1352 (by decide +kernel) rfl⟩
theorem cb_yX12_similar : CB yX12_similar cX12_similar 8 (some FieldType.int) 2 := ⟨jv_Tt 1357 (by decide +kernel) rfl, jv_Tt 12 (by decide +kernel) rfl, by decide +kernel, by decide⟩
theorem cw_L_96 : CWV RL 96 yX12_similar cX12_similar 8 (some FieldType.int) 2 := ⟨cb_yX12_similar, jv_Tt 1354 (by decide +kernel) rfl, jv_Tt 1355 (by decide +kernel) rfl, jv_Tt 1356 (by decide +kernel) rfl⟩
theorem cb_yX12_hit : CB yX12_hit cX12_hit 2 (some FieldType.int) 1 := ⟨jv_Tt 1361 (by decide +kernel) rfl, jv_Tt 12 (by decide +kernel) rfl, by decide +kernel, by decide⟩
theorem cw_L_99 : CWV RL 99 yX12_hit cX12_hit 2 (some FieldType.int) 1 := ⟨cb_yX12_hit, jv_Tt 1358 (by decide +kernel) rfl, jv_Tt 1359 (by decide +kernel) rfl, jv_Tt 1360 (by decide +kernel) rfl⟩
theorem cb_yX12_score : CB yX12_score cX12_score 2 (some FieldType.int) 1 := ⟨jv_Tt 1365 (by decide +kernel) rfl, jv_Tt 12 (by decide +kernel) rfl, by decide +kernel, by decide⟩
theorem cw_L_102 : CWV RL 102 yX12_score cX12_score 2 (some FieldType.int) 1 := ⟨cb_yX12_score, jv_Tt 1362 (by decide +kernel) rfl, jv_Tt 1363 (by decide +kernel) rfl, jv_Tt 1364 (by decide +kernel) rfl⟩
theorem ml_X12_1 : Cond.methodLink RX12 1 objectInit ∈ jv_T := jv_Tt 1120 (by decide +kernel) rfl
theorem cb_yX12_letterOf : CB yX12_letterOf cX12_letterOf 1 (some FieldType.int) 1 := ⟨jv_Tt 1240 (by decide +kernel) rfl, jv_Tt 12 (by decide +kernel) rfl, by decide +kernel, by decide⟩
theorem cw_X12_77 : CWS RX12 77 yX12_letterOf cX12_letterOf 1 (some FieldType.int) 1 := ⟨cb_yX12_letterOf, jv_Tt 1238 (by decide +kernel) rfl, jv_Tt 1239 (by decide +kernel) rfl⟩
theorem cb_yX12_with : CB yX12_with cX12_with 4 (some FieldType.long) 3 := ⟨jv_Tt 1243 (by decide +kernel) rfl, jv_Tt 12 (by decide +kernel) rfl, by decide +kernel, by decide⟩
theorem cw_X12_81 : CWS RX12 81 yX12_with cX12_with 4 (some FieldType.long) 3 := ⟨cb_yX12_with, jv_Tt 1241 (by decide +kernel) rfl, jv_Tt 1242 (by decide +kernel) rfl⟩
theorem cb_yX12_times : CB yX12_times cX12_times 6 (some FieldType.int) 2 := ⟨jv_Tt 1269 (by decide +kernel) rfl, jv_Tt 12 (by decide +kernel) rfl, by decide +kernel, by decide⟩
theorem cw_X12_88 : CWV RX12 88 yX12_times cX12_times 6 (some FieldType.int) 2 := ⟨cb_yX12_times, jv_Tt 1266 (by decide +kernel) rfl, jv_Tt 1268 (by decide +kernel) rfl, jv_Tp 34 (by decide +kernel) rfl⟩
theorem cb_yX12_isFirst : CB yX12_isFirst cX12_isFirst 5 (some FieldType.boolean) 2 := ⟨jv_Tt 1281 (by decide +kernel) rfl, jv_Tt 12 (by decide +kernel) rfl, by decide +kernel, by decide⟩
theorem cw_X12_98 : CWV RX12 98 yX12_isFirst cX12_isFirst 5 (some FieldType.boolean) 2 := ⟨cb_yX12_isFirst, jv_Tt 1278 (by decide +kernel) rfl, jv_Tt 1280 (by decide +kernel) rfl, jv_Tp 37 (by decide +kernel) rfl⟩
theorem cb_yX12_spot : CB yX12_spot cX12_spot 4 (some FieldType.int) 1 := ⟨jv_Tt 1285 (by decide +kernel) rfl, jv_Tt 12 (by decide +kernel) rfl, by decide +kernel, by decide⟩
theorem cw_X12_102 : CWV RX12 102 yX12_spot cX12_spot 4 (some FieldType.int) 1 := ⟨cb_yX12_spot, jv_Tt 1282 (by decide +kernel) rfl, jv_Tt 1284 (by decide +kernel) rfl, jv_Tp 38 (by decide +kernel) rfl⟩
theorem cb_yX12_digitsOf : CB yX12_digitsOf cX12_digitsOf 4 (some FieldType.int) 1 := ⟨jv_Tt 1290 (by decide +kernel) rfl, jv_Tt 12 (by decide +kernel) rfl, by decide +kernel, by decide⟩
theorem cw_X12_106 : CWV RX12 106 yX12_digitsOf cX12_digitsOf 4 (some FieldType.int) 1 := ⟨cb_yX12_digitsOf, jv_Tt 1287 (by decide +kernel) rfl, jv_Tt 1289 (by decide +kernel) rfl, jv_Tp 39 (by decide +kernel) rfl⟩
theorem cb_yX12_impact : CB yX12_impact cX12_impact 5 (some FieldType.int) 2 := ⟨jv_Tt 1294 (by decide +kernel) rfl, jv_Tt 12 (by decide +kernel) rfl, by decide +kernel, by decide⟩
theorem cw_X12_109 : CWV RX12 109 yX12_impact cX12_impact 5 (some FieldType.int) 2 := ⟨cb_yX12_impact, jv_Tt 1291 (by decide +kernel) rfl, jv_Tt 1293 (by decide +kernel) rfl, jv_Tp 40 (by decide +kernel) rfl⟩
theorem cb_yX12_know : CB yX12_know cX12_know 5 (none) 0 := ⟨jv_Tt 1277 (by decide +kernel) rfl, jv_Tt 12 (by decide +kernel) rfl, by decide +kernel, by decide⟩
theorem cw_X12_112 : CWV RX12 112 yX12_know cX12_know 5 (none) 0 := ⟨cb_yX12_know, jv_Tt 1274 (by decide +kernel) rfl, jv_Tt 1276 (by decide +kernel) rfl, jv_Tp 36 (by decide +kernel) rfl⟩
theorem cb_yX12_having : CB yX12_having cX12_having 3 (some FieldType.int) 1 := ⟨jv_Tt 1273 (by decide +kernel) rfl, jv_Tt 12 (by decide +kernel) rfl, by decide +kernel, by decide⟩
theorem cw_X12_115 : CWV RX12 115 yX12_having cX12_having 3 (some FieldType.int) 1 := ⟨cb_yX12_having, jv_Tt 1270 (by decide +kernel) rfl, jv_Tt 1272 (by decide +kernel) rfl, jv_Tp 35 (by decide +kernel) rfl⟩
theorem cb_yX12_isNumber : CB yX12_isNumber cX12_isNumber 1 (some FieldType.boolean) 1 := ⟨jv_Tt 1225 (by decide +kernel) rfl, jv_Tt 12 (by decide +kernel) rfl, by decide +kernel, by decide⟩
theorem cw_X12_119 : CWS RX12 119 yX12_isNumber cX12_isNumber 1 (some FieldType.boolean) 1 := ⟨cb_yX12_isNumber, jv_Tt 1223 (by decide +kernel) rfl, jv_Tt 1224 (by decide +kernel) rfl⟩
theorem cb_yX12_placeOf : CB yX12_placeOf cX12_placeOf 4 (some FieldType.int) 1 := ⟨jv_Tt 1229 (by decide +kernel) rfl, jv_Tt 12 (by decide +kernel) rfl, by decide +kernel, by decide⟩
theorem cw_X12_123 : CWV RX12 123 yX12_placeOf cX12_placeOf 4 (some FieldType.int) 1 := ⟨cb_yX12_placeOf, jv_Tt 1226 (by decide +kernel) rfl, jv_Tt 1228 (by decide +kernel) rfl, jv_Tp 30 (by decide +kernel) rfl⟩
theorem cb_yX12_remove : CB yX12_remove cX12_remove 3 (none) 1 := ⟨jv_Tt 1233 (by decide +kernel) rfl, jv_Tt 12 (by decide +kernel) rfl, by decide +kernel, by decide⟩
theorem cw_X12_126 : CWV RX12 126 yX12_remove cX12_remove 3 (none) 1 := ⟨cb_yX12_remove, jv_Tt 1230 (by decide +kernel) rfl, jv_Tt 1232 (by decide +kernel) rfl, jv_Tp 31 (by decide +kernel) rfl⟩
theorem cb_yX12_readWords : CB yX12_readWords cX12_readWords 6 (none) 0 := ⟨jv_Tt 1237 (by decide +kernel) rfl, jv_Tt 12 (by decide +kernel) rfl, by decide +kernel, by decide⟩
theorem cw_X12_130 : CWV RX12 130 yX12_readWords cX12_readWords 6 (none) 0 := ⟨cb_yX12_readWords, jv_Tt 1234 (by decide +kernel) rfl, jv_Tt 1236 (by decide +kernel) rfl, jv_Tp 32 (by decide +kernel) rfl⟩
theorem cb_yX12_nextWord : CB yX12_nextWord cX12_nextWord 7 (some FieldType.long) 1 := ⟨jv_Tt 1256 (by decide +kernel) rfl, jv_Tt 12 (by decide +kernel) rfl, by decide +kernel, by decide⟩
theorem cw_X12_135 : CWV RX12 135 yX12_nextWord cX12_nextWord 7 (some FieldType.long) 1 := ⟨cb_yX12_nextWord, jv_Tt 1253 (by decide +kernel) rfl, jv_Tt 1255 (by decide +kernel) rfl, jv_Tp 33 (by decide +kernel) rfl⟩
theorem cb_yX12_rarity : CB yX12_rarity cX12_rarity 3 (some FieldType.int) 1 := ⟨jv_Tt 1298 (by decide +kernel) rfl, jv_Tt 12 (by decide +kernel) rfl, by decide +kernel, by decide⟩
theorem cw_X12_141 : CWV RX12 141 yX12_rarity cX12_rarity 3 (some FieldType.int) 1 := ⟨cb_yX12_rarity, jv_Tt 1295 (by decide +kernel) rfl, jv_Tt 1297 (by decide +kernel) rfl, jv_Tp 41 (by decide +kernel) rfl⟩
theorem cb_yX12_isBlank : CB yX12_isBlank cX12_isBlank 1 (some FieldType.boolean) 0 := ⟨jv_Tt 1314 (by decide +kernel) rfl, jv_Tt 12 (by decide +kernel) rfl, by decide +kernel, by decide⟩
theorem cw_X12_147 : CWV RX12 147 yX12_isBlank cX12_isBlank 1 (some FieldType.boolean) 0 := ⟨cb_yX12_isBlank, jv_Tt 1311 (by decide +kernel) rfl, jv_Tt 1313 (by decide +kernel) rfl, jv_Tp 44 (by decide +kernel) rfl⟩
theorem cb_yX12_byteAt : CB yX12_byteAt cX12_byteAt 2 (some FieldType.int) 1 := ⟨jv_Tt 1330 (by decide +kernel) rfl, jv_Tt 12 (by decide +kernel) rfl, by decide +kernel, by decide⟩
theorem cw_X12_157 : CWV RX12 157 yX12_byteAt cX12_byteAt 2 (some FieldType.int) 1 := ⟨cb_yX12_byteAt, jv_Tt 1327 (by decide +kernel) rfl, jv_Tt 1329 (by decide +kernel) rfl, jv_Tp 48 (by decide +kernel) rfl⟩
theorem cb_yX12_bad : CB yX12_bad cX12_bad 3 (some FieldType.boolean) 2 := ⟨jv_Tt 1322 (by decide +kernel) rfl, jv_Tt 12 (by decide +kernel) rfl, by decide +kernel, by decide⟩
theorem cw_X12_160 : CWV RX12 160 yX12_bad cX12_bad 3 (some FieldType.boolean) 2 := ⟨cb_yX12_bad, jv_Tt 1319 (by decide +kernel) rfl, jv_Tt 1321 (by decide +kernel) rfl, jv_Tp 46 (by decide +kernel) rfl⟩
theorem cb_yX12_skip : CB yX12_skip cX12_skip 1 (none) 0 := ⟨jv_Tt 1310 (by decide +kernel) rfl, jv_Tt 12 (by decide +kernel) rfl, by decide +kernel, by decide⟩
theorem cw_X12_164 : CWV RX12 164 yX12_skip cX12_skip 1 (none) 0 := ⟨cb_yX12_skip, jv_Tt 1307 (by decide +kernel) rfl, jv_Tt 1309 (by decide +kernel) rfl, jv_Tp 43 (by decide +kernel) rfl⟩
theorem cb_yX12_isTermStart : CB yX12_isTermStart cX12_isTermStart 1 (some FieldType.boolean) 0 := ⟨jv_Tt 1318 (by decide +kernel) rfl, jv_Tt 12 (by decide +kernel) rfl, by decide +kernel, by decide⟩
theorem cw_X12_167 : CWV RX12 167 yX12_isTermStart cX12_isTermStart 1 (some FieldType.boolean) 0 := ⟨cb_yX12_isTermStart, jv_Tt 1315 (by decide +kernel) rfl, jv_Tt 1317 (by decide +kernel) rfl, jv_Tp 45 (by decide +kernel) rfl⟩
theorem cb_yX12_isTermBad : CB yX12_isTermBad cX12_isTermBad 3 (some FieldType.boolean) 0 := ⟨jv_Tt 1326 (by decide +kernel) rfl, jv_Tt 12 (by decide +kernel) rfl, by decide +kernel, by decide⟩
theorem cw_X12_170 : CWV RX12 170 yX12_isTermBad cX12_isTermBad 3 (some FieldType.boolean) 0 := ⟨cb_yX12_isTermBad, jv_Tt 1323 (by decide +kernel) rfl, jv_Tt 1325 (by decide +kernel) rfl, jv_Tp 47 (by decide +kernel) rfl⟩
theorem cb_yX12_begins : CB yX12_begins cX12_begins 5 (some FieldType.boolean) 3 := ⟨jv_Tt 1345 (by decide +kernel) rfl, jv_Tt 12 (by decide +kernel) rfl, by decide +kernel, by decide⟩
theorem cw_X12_173 : CWS RX12 173 yX12_begins cX12_begins 5 (some FieldType.boolean) 3 := ⟨cb_yX12_begins, jv_Tt 1343 (by decide +kernel) rfl, jv_Tt 1344 (by decide +kernel) rfl⟩
theorem cb_yX12_stands : CB yX12_stands cX12_stands 4 (some FieldType.boolean) 2 := ⟨jv_Tt 1342 (by decide +kernel) rfl, jv_Tt 12 (by decide +kernel) rfl, by decide +kernel, by decide⟩
theorem cw_X12_177 : CWV RX12 177 yX12_stands cX12_stands 4 (some FieldType.boolean) 2 := ⟨cb_yX12_stands, jv_Tt 1339 (by decide +kernel) rfl, jv_Tt 1341 (by decide +kernel) rfl, jv_Tp 51 (by decide +kernel) rfl⟩
theorem cb_yX12_scoreOf : CB yX12_scoreOf cX12_scoreOf 8 (some FieldType.int) 1 := ⟨jv_Tt 1338 (by decide +kernel) rfl, jv_Tt 12 (by decide +kernel) rfl, by decide +kernel, by decide⟩
theorem cw_X12_181 : CWV RX12 181 yX12_scoreOf cX12_scoreOf 8 (some FieldType.int) 1 := ⟨cb_yX12_scoreOf, jv_Tt 1335 (by decide +kernel) rfl, jv_Tt 1337 (by decide +kernel) rfl, jv_Tp 50 (by decide +kernel) rfl⟩
theorem cb_yX12_isQuery : CB yX12_isQuery cX12_isQuery 1 (some FieldType.boolean) 0 := ⟨jv_Tt 1306 (by decide +kernel) rfl, jv_Tt 12 (by decide +kernel) rfl, by decide +kernel, by decide⟩
theorem cw_X12_187 : CWV RX12 187 yX12_isQuery cX12_isQuery 1 (some FieldType.boolean) 0 := ⟨cb_yX12_isQuery, jv_Tt 1303 (by decide +kernel) rfl, jv_Tt 1305 (by decide +kernel) rfl, jv_Tp 42 (by decide +kernel) rfl⟩
theorem cb_yX12_pick : CB yX12_pick cX12_pick 7 (some FieldType.int) 2 := ⟨jv_Tt 1334 (by decide +kernel) rfl, jv_Tt 12 (by decide +kernel) rfl, by decide +kernel, by decide⟩
theorem cw_X12_190 : CWV RX12 190 yX12_pick cX12_pick 7 (some FieldType.int) 2 := ⟨cb_yX12_pick, jv_Tt 1331 (by decide +kernel) rfl, jv_Tt 1333 (by decide +kernel) rfl, jv_Tp 49 (by decide +kernel) rfl⟩
theorem ml_J5_3 : Cond.methodLink RJ5 3 objectInit ∈ jv_T := jv_Tt 624 (by decide +kernel) rfl
theorem cb_yJ2_newBytesFor_77867 : CB yJ2_newBytesFor_77867 cJ2_newBytesFor_77867 1 (some (FieldType.array FieldType.byte)) 1 := ⟨jv_Tt 629 (by decide +kernel) rfl, jv_Tt 30 (by decide +kernel) rfl, by decide +kernel, by decide⟩
theorem cw_J5_26 : CWS RJ5 26 yJ2_newBytesFor_77867 cJ2_newBytesFor_77867 1 (some (FieldType.array FieldType.byte)) 1 := ⟨cb_yJ2_newBytesFor_77867, jv_Tt 627 (by decide +kernel) rfl, jv_Tt 628 (by decide +kernel) rfl⟩
theorem cb_yJ0_length_8abf5 : CB yJ0_length_8abf5 cJ0_length_8abf5 1 (some FieldType.int) 0 := ⟨jv_Tt 713 (by decide +kernel) rfl, jv_Tt 29 (by decide +kernel) rfl, by decide +kernel, by decide⟩
theorem cw_J5_32 : CWV RJ5 32 yJ0_length_8abf5 cJ0_length_8abf5 1 (some FieldType.int) 0 := ⟨cb_yJ0_length_8abf5, jv_Tt 710 (by decide +kernel) rfl, jv_Tt 711 (by decide +kernel) rfl, jv_Tt 712 (by decide +kernel) rfl⟩
theorem cb_yJ0_coder_7d493 : CB yJ0_coder_7d493 cJ0_coder_7d493 1 (some FieldType.byte) 0 := ⟨jv_Tt 717 (by decide +kernel) rfl, jv_Tt 29 (by decide +kernel) rfl, by decide +kernel, by decide⟩
theorem cw_J5_40 : CWV RJ5 40 yJ0_coder_7d493 cJ0_coder_7d493 1 (some FieldType.byte) 0 := ⟨cb_yJ0_coder_7d493, jv_Tt 727 (by decide +kernel) rfl, jv_Tt 715 (by decide +kernel) rfl, jv_Tt 716 (by decide +kernel) rfl⟩
theorem cb_yJ5_isLatin1_aae02 : CB yJ5_isLatin1_aae02 cJ5_isLatin1_aae02 1 (some FieldType.boolean) 0 := ⟨jv_Tt 683 (by decide +kernel) rfl, jv_Tt 27 (by decide +kernel) rfl, by decide +kernel, by decide⟩
theorem cb_yJ5_ensureCapacityInternal_d00df : CB yJ5_ensureCapacityInternal_d00df cJ5_ensureCapacityInternal_d00df 3 (none) 1 := ⟨jv_Tt 662 (by decide +kernel) rfl, jv_Tt 27 (by decide +kernel) rfl, by decide +kernel, by decide⟩
theorem cb_yJ5_newCapacity_0f7a4 : CB yJ5_newCapacity_0f7a4 cJ5_newCapacity_0f7a4 6 (some FieldType.int) 1 := ⟨jv_Tt 666 (by decide +kernel) rfl, jv_Tt 27 (by decide +kernel) rfl, by decide +kernel, by decide⟩
theorem cb_yJ7_copyOf_9075b : CB yJ7_copyOf_9075b cJ7_copyOf_9075b 3 (some (FieldType.array FieldType.byte)) 2 := ⟨jv_Tt 671 (by decide +kernel) rfl, jv_Tt 22 (by decide +kernel) rfl, by decide +kernel, by decide⟩
theorem cw_J5_108 : CWS RJ5 108 yJ7_copyOf_9075b cJ7_copyOf_9075b 3 (some (FieldType.array FieldType.byte)) 2 := ⟨cb_yJ7_copyOf_9075b, jv_Tt 669 (by decide +kernel) rfl, jv_Tt 670 (by decide +kernel) rfl⟩
theorem cb_yJ8_newLength_cabcc : CB yJ8_newLength_cabcc cJ8_newLength_cabcc 4 (some FieldType.int) 3 := ⟨jv_Tt 445 (by decide +kernel) rfl, jv_Tt 20 (by decide +kernel) rfl, by decide +kernel, by decide⟩
theorem cw_J5_114 : CWS RJ5 114 yJ8_newLength_cabcc cJ8_newLength_cabcc 4 (some FieldType.int) 3 := ⟨cb_yJ8_newLength_cabcc, jv_Tt 667 (by decide +kernel) rfl, jv_Tt 444 (by decide +kernel) rfl⟩
theorem cb_yJ1_inflate_0e8fd : CB yJ1_inflate_0e8fd cJ1_inflate_0e8fd 5 (none) 5 := ⟨jv_Tt 734 (by decide +kernel) rfl, jv_Tt 31 (by decide +kernel) rfl, by decide +kernel, by decide⟩
theorem cw_J5_125 : CWS RJ5 125 yJ1_inflate_0e8fd cJ1_inflate_0e8fd 5 (none) 5 := ⟨cb_yJ1_inflate_0e8fd, jv_Tt 732 (by decide +kernel) rfl, jv_Tt 733 (by decide +kernel) rfl⟩
theorem cb_yJ5_inflate_da8c8 : CB yJ5_inflate_da8c8 cJ5_inflate_da8c8 2 (none) 0 := ⟨jv_Tt 731 (by decide +kernel) rfl, jv_Tt 27 (by decide +kernel) rfl, by decide +kernel, by decide⟩
theorem cb_yJ5_appendNull_278bc : CB yJ5_appendNull_278bc cJ5_appendNull_278bc 3 (some (FieldType.object "java/lang/AbstractStringBuilder")) 0 := ⟨jv_Tt 658 (by decide +kernel) rfl, jv_Tt 27 (by decide +kernel) rfl, by decide +kernel, by decide⟩
theorem cb_yJ5_putStringAt_47b60 : CB yJ5_putStringAt_47b60 cJ5_putStringAt_47b60 3 (none) 2 := ⟨jv_Tt 722 (by decide +kernel) rfl, jv_Tt 27 (by decide +kernel) rfl, by decide +kernel, by decide⟩
theorem cb_yJ2_putCharsAt_cd4e5 : CB yJ2_putCharsAt_cd4e5 cJ2_putCharsAt_cd4e5 7 (some FieldType.int) 6 := ⟨jv_Tt 686 (by decide +kernel) rfl, jv_Tt 30 (by decide +kernel) rfl, by decide +kernel, by decide⟩
theorem cw_J5_226 : CWS RJ5 226 yJ2_putCharsAt_cd4e5 cJ2_putCharsAt_cd4e5 7 (some FieldType.int) 6 := ⟨cb_yJ2_putCharsAt_cd4e5, jv_Tt 684 (by decide +kernel) rfl, jv_Tt 685 (by decide +kernel) rfl⟩
theorem cb_yJ6_stringSize_0f7a4 : CB yJ6_stringSize_0f7a4 cJ6_stringSize_0f7a4 4 (some FieldType.int) 1 := ⟨jv_Tt 762 (by decide +kernel) rfl, jv_Tt 33 (by decide +kernel) rfl, by decide +kernel, by decide⟩
theorem cw_J5_245 : CWS RJ5 245 yJ6_stringSize_0f7a4 cJ6_stringSize_0f7a4 4 (some FieldType.int) 1 := ⟨cb_yJ6_stringSize_0f7a4, jv_Tt 760 (by decide +kernel) rfl, jv_Tt 761 (by decide +kernel) rfl⟩
theorem cb_yJ6_getChars_ba4f3 : CB yJ6_getChars_ba4f3 cJ6_getChars_ba4f3 7 (some FieldType.int) 3 := ⟨jv_Tt 765 (by decide +kernel) rfl, jv_Tt 33 (by decide +kernel) rfl, by decide +kernel, by decide⟩
theorem cw_J5_248 : CWS RJ5 248 yJ6_getChars_ba4f3 cJ6_getChars_ba4f3 7 (some FieldType.int) 3 := ⟨cb_yJ6_getChars_ba4f3, jv_Tt 763 (by decide +kernel) rfl, jv_Tt 764 (by decide +kernel) rfl⟩
theorem cb_yJ2_getChars_46870 : CB yJ2_getChars_46870 cJ2_getChars_46870 5 (some FieldType.int) 4 := ⟨jv_Tt 772 (by decide +kernel) rfl, jv_Tt 30 (by decide +kernel) rfl, by decide +kernel, by decide⟩
theorem cw_J5_251 : CWS RJ5 251 yJ2_getChars_46870 cJ2_getChars_46870 5 (some FieldType.int) 4 := ⟨cb_yJ2_getChars_46870, jv_Tt 770 (by decide +kernel) rfl, jv_Tt 771 (by decide +kernel) rfl⟩
theorem cb_yJ5_inflateIfNeededFor_a7421 : CB yJ5_inflateIfNeededFor_a7421 cJ5_inflateIfNeededFor_a7421 2 (none) 1 := ⟨jv_Tt 726 (by decide +kernel) rfl, jv_Tt 27 (by decide +kernel) rfl, by decide +kernel, by decide⟩
theorem cb_yJ0_getBytes_840e7 : CB yJ0_getBytes_840e7 cJ0_getBytes_840e7 4 (none) 3 := ⟨jv_Tt 750 (by decide +kernel) rfl, jv_Tt 29 (by decide +kernel) rfl, by decide +kernel, by decide⟩
theorem cw_J5_399 : CWV RJ5 399 yJ0_getBytes_840e7 cJ0_getBytes_840e7 4 (none) 3 := ⟨cb_yJ0_getBytes_840e7, jv_Tt 747 (by decide +kernel) rfl, jv_Tt 748 (by decide +kernel) rfl, jv_Tt 749 (by decide +kernel) rfl⟩
theorem ml_J0_1 : Cond.methodLink RJ0 1 objectInit ∈ jv_T := jv_Tt 791 (by decide +kernel) rfl
theorem cb_yJ2_coderFromArrayLen_85cad : CB yJ2_coderFromArrayLen_85cad cJ2_coderFromArrayLen_85cad 2 (some FieldType.byte) 2 := ⟨jv_Tt 835 (by decide +kernel) rfl, jv_Tt 30 (by decide +kernel) rfl, by decide +kernel, by decide⟩
theorem cw_J0_47 : CWS RJ0 47 yJ2_coderFromArrayLen_85cad cJ2_coderFromArrayLen_85cad 2 (some FieldType.byte) 2 := ⟨cb_yJ2_coderFromArrayLen_85cad, jv_Tt 833 (by decide +kernel) rfl, jv_Tt 834 (by decide +kernel) rfl⟩
theorem cb_yJ7_copyOfRange_39247 : CB yJ7_copyOfRange_39247 cJ7_copyOfRange_39247 3 (some (FieldType.array FieldType.byte)) 3 := ⟨jv_Tt 808 (by decide +kernel) rfl, jv_Tt 22 (by decide +kernel) rfl, by decide +kernel, by decide⟩
theorem cw_J0_54 : CWS RJ0 54 yJ7_copyOfRange_39247 cJ7_copyOfRange_39247 3 (some (FieldType.array FieldType.byte)) 3 := ⟨cb_yJ7_copyOfRange_39247, jv_Tt 806 (by decide +kernel) rfl, jv_Tt 807 (by decide +kernel) rfl⟩
theorem cw_J0_106 : CWS RJ0 106 yJ1_inflate_0e8fd cJ1_inflate_0e8fd 5 (none) 5 := ⟨cb_yJ1_inflate_0e8fd, jv_Tt 752 (by decide +kernel) rfl, jv_Tt 733 (by decide +kernel) rfl⟩
theorem cw_J0_335 : CWV RJ0 335 yJ0_coder_7d493 cJ0_coder_7d493 1 (some FieldType.byte) 0 := ⟨cb_yJ0_coder_7d493, jv_Tt 714 (by decide +kernel) rfl, jv_Tt 715 (by decide +kernel) rfl, jv_Tt 716 (by decide +kernel) rfl⟩
theorem cb_yJ0_init_db425 : CB yJ0_init_db425 cJ0_init_db425 5 (none) 2 := ⟨jv_Tt 790 (by decide +kernel) rfl, jv_Tt 29 (by decide +kernel) rfl, by decide +kernel, by decide⟩
theorem cw_J0_489 : CWI RJ0 489 yJ0_init_db425 cJ0_init_db425 5 2 := ⟨cb_yJ0_init_db425, jv_Tt 789 (by decide +kernel) rfl, rfl, Or.inl (jv_Tt 788 (by decide +kernel) rfl)⟩
theorem cb_yJ5_length_8abf5 : CB yJ5_length_8abf5 cJ5_length_8abf5 1 (some FieldType.int) 0 := ⟨jv_Tt 804 (by decide +kernel) rfl, jv_Tt 27 (by decide +kernel) rfl, by decide +kernel, by decide⟩
theorem cb_yJ5_getValue_6d5f1 : CB yJ5_getValue_6d5f1 cJ5_getValue_6d5f1 1 (some (FieldType.array FieldType.byte)) 0 := ⟨jv_Tt 796 (by decide +kernel) rfl, jv_Tt 27 (by decide +kernel) rfl, by decide +kernel, by decide⟩
theorem cb_yJ2_compress_39247 : CB yJ2_compress_39247 cJ2_compress_39247 6 (some (FieldType.array FieldType.byte)) 3 := ⟨jv_Tt 825 (by decide +kernel) rfl, jv_Tt 30 (by decide +kernel) rfl, by decide +kernel, by decide⟩
theorem cw_J0_1051 : CWS RJ0 1051 yJ2_compress_39247 cJ2_compress_39247 6 (some (FieldType.array FieldType.byte)) 3 := ⟨cb_yJ2_compress_39247, jv_Tt 823 (by decide +kernel) rfl, jv_Tt 824 (by decide +kernel) rfl⟩
theorem cb_yJ3_checkFromToIndex_8c36e : CB yJ3_checkFromToIndex_8c36e cJ3_checkFromToIndex_8c36e 4 (some FieldType.int) 4 := ⟨jv_Tt 700 (by decide +kernel) rfl, jv_Tt 18 (by decide +kernel) rfl, by decide +kernel, by decide⟩
theorem cw_J0_1062 : CWS RJ0 1062 yJ3_checkFromToIndex_8c36e cJ3_checkFromToIndex_8c36e 4 (some FieldType.int) 4 := ⟨cb_yJ3_checkFromToIndex_8c36e, jv_Tt 698 (by decide +kernel) rfl, jv_Tt 699 (by decide +kernel) rfl⟩
theorem cb_yJ3_checkFromIndexSize_8c36e : CB yJ3_checkFromIndexSize_8c36e cJ3_checkFromIndexSize_8c36e 4 (some FieldType.int) 4 := ⟨jv_Tt 746 (by decide +kernel) rfl, jv_Tt 18 (by decide +kernel) rfl, by decide +kernel, by decide⟩
theorem cw_J0_1065 : CWS RJ0 1065 yJ3_checkFromIndexSize_8c36e cJ3_checkFromIndexSize_8c36e 4 (some FieldType.int) 4 := ⟨cb_yJ3_checkFromIndexSize_8c36e, jv_Tt 744 (by decide +kernel) rfl, jv_Tt 745 (by decide +kernel) rfl⟩
theorem cb_yJ5_init_d00df : CB yJ5_init_d00df cJ5_init_d00df 2 (none) 1 := ⟨jv_Tt 623 (by decide +kernel) rfl, jv_Tt 27 (by decide +kernel) rfl, by decide +kernel, by decide⟩
theorem cw_J4_1 : CWI RJ4 1 yJ5_init_d00df cJ5_init_d00df 2 1 := ⟨cb_yJ5_init_d00df, jv_Tt 622 (by decide +kernel) rfl, rfl, Or.inl (jv_Tt 621 (by decide +kernel) rfl)⟩
theorem cb_yJ5_append_cf1ce : CB yJ5_append_cf1ce cJ5_append_cf1ce 3 (some (FieldType.object "java/lang/AbstractStringBuilder")) 1 := ⟨jv_Tt 654 (by decide +kernel) rfl, jv_Tt 27 (by decide +kernel) rfl, by decide +kernel, by decide⟩
theorem cb_yJ5_append_c97b9 : CB yJ5_append_c97b9 cJ5_append_c97b9 4 (some (FieldType.object "java/lang/AbstractStringBuilder")) 1 := ⟨jv_Tt 759 (by decide +kernel) rfl, jv_Tt 27 (by decide +kernel) rfl, by decide +kernel, by decide⟩
theorem cb_yJ0_init_81219 : CB yJ0_init_81219 cJ0_init_81219 2 (none) 1 := ⟨jv_Tt 787 (by decide +kernel) rfl, jv_Tt 29 (by decide +kernel) rfl, by decide +kernel, by decide⟩
theorem cw_J4_137 : CWI RJ4 137 yJ0_init_81219 cJ0_init_81219 2 1 := ⟨cb_yJ0_init_81219, jv_Tt 786 (by decide +kernel) rfl, rfl, Or.inl (jv_Tt 785 (by decide +kernel) rfl)⟩
theorem cb_yJ2_inflate_0e8fd : CB yJ2_inflate_0e8fd cJ2_inflate_0e8fd 6 (none) 5 := ⟨jv_Tt 737 (by decide +kernel) rfl, jv_Tt 30 (by decide +kernel) rfl, by decide +kernel, by decide⟩
theorem cw_J1_240 : CWS RJ1 240 yJ2_inflate_0e8fd cJ2_inflate_0e8fd 6 (none) 5 := ⟨cb_yJ2_inflate_0e8fd, jv_Tt 735 (by decide +kernel) rfl, jv_Tt 736 (by decide +kernel) rfl⟩
theorem cb_yJ2_newBytesLength_0f7a4 : CB yJ2_newBytesLength_0f7a4 cJ2_newBytesLength_0f7a4 1 (some FieldType.int) 1 := ⟨jv_Tt 632 (by decide +kernel) rfl, jv_Tt 30 (by decide +kernel) rfl, by decide +kernel, by decide⟩
theorem cw_J2_11 : CWS RJ2 11 yJ2_newBytesLength_0f7a4 cJ2_newBytesLength_0f7a4 1 (some FieldType.int) 1 := ⟨cb_yJ2_newBytesLength_0f7a4, jv_Tt 630 (by decide +kernel) rfl, jv_Tt 631 (by decide +kernel) rfl⟩
theorem cb_yJ2_length_9d52b : CB yJ2_length_9d52b cJ2_length_9d52b 1 (some FieldType.int) 1 := ⟨jv_Tt 692 (by decide +kernel) rfl, jv_Tt 30 (by decide +kernel) rfl, by decide +kernel, by decide⟩
theorem cw_J2_48 : CWS RJ2 48 yJ2_length_9d52b cJ2_length_9d52b 1 (some FieldType.int) 1 := ⟨cb_yJ2_length_9d52b, jv_Tt 690 (by decide +kernel) rfl, jv_Tt 691 (by decide +kernel) rfl⟩
theorem cb_yJ2_getChar_3b067 : CB yJ2_getChar_3b067 cJ2_getChar_3b067 2 (some FieldType.char) 2 := ⟨jv_Tt 831 (by decide +kernel) rfl, jv_Tt 30 (by decide +kernel) rfl, by decide +kernel, by decide⟩
theorem cw_J2_71 : CWS RJ2 71 yJ2_getChar_3b067 cJ2_getChar_3b067 2 (some FieldType.char) 2 := ⟨cb_yJ2_getChar_3b067, jv_Tt 829 (by decide +kernel) rfl, jv_Tt 830 (by decide +kernel) rfl⟩
theorem cb_yJ2_checkBoundsBeginEnd_d044e : CB yJ2_checkBoundsBeginEnd_d044e cJ2_checkBoundsBeginEnd_d044e 3 (none) 3 := ⟨jv_Tt 689 (by decide +kernel) rfl, jv_Tt 30 (by decide +kernel) rfl, by decide +kernel, by decide⟩
theorem cw_J2_96 : CWS RJ2 96 yJ2_checkBoundsBeginEnd_d044e cJ2_checkBoundsBeginEnd_d044e 3 (none) 3 := ⟨cb_yJ2_checkBoundsBeginEnd_d044e, jv_Tt 687 (by decide +kernel) rfl, jv_Tt 688 (by decide +kernel) rfl⟩
theorem cb_yJ2_putChar_b72d1 : CB yJ2_putChar_b72d1 cJ2_putChar_b72d1 3 (none) 3 := ⟨jv_Tt 703 (by decide +kernel) rfl, jv_Tt 30 (by decide +kernel) rfl, by decide +kernel, by decide⟩
theorem cw_J2_111 : CWS RJ2 111 yJ2_putChar_b72d1 cJ2_putChar_b72d1 3 (none) 3 := ⟨cb_yJ2_putChar_b72d1, jv_Tt 701 (by decide +kernel) rfl, jv_Tt 702 (by decide +kernel) rfl⟩
theorem cb_yJ2_compress_5af95 : CB yJ2_compress_5af95 cJ2_compress_5af95 7 (some FieldType.int) 5 := ⟨jv_Tt 828 (by decide +kernel) rfl, jv_Tt 30 (by decide +kernel) rfl, by decide +kernel, by decide⟩
theorem cw_J2_123 : CWS RJ2 123 yJ2_compress_5af95 cJ2_compress_5af95 7 (some FieldType.int) 5 := ⟨cb_yJ2_compress_5af95, jv_Tt 826 (by decide +kernel) rfl, jv_Tt 827 (by decide +kernel) rfl⟩
theorem cw_J2_126 : CWS RJ2 126 yJ7_copyOfRange_39247 cJ7_copyOfRange_39247 3 (some (FieldType.array FieldType.byte)) 3 := ⟨cb_yJ7_copyOfRange_39247, jv_Tt 832 (by decide +kernel) rfl, jv_Tt 807 (by decide +kernel) rfl⟩
theorem cb_yJ2_checkBoundsOffCount_d044e : CB yJ2_checkBoundsOffCount_d044e cJ2_checkBoundsOffCount_d044e 3 (none) 3 := ⟨jv_Tt 740 (by decide +kernel) rfl, jv_Tt 30 (by decide +kernel) rfl, by decide +kernel, by decide⟩
theorem cw_J2_173 : CWS RJ2 173 yJ2_checkBoundsOffCount_d044e cJ2_checkBoundsOffCount_d044e 3 (none) 3 := ⟨cb_yJ2_checkBoundsOffCount_d044e, jv_Tt 738 (by decide +kernel) rfl, jv_Tt 739 (by decide +kernel) rfl⟩
theorem cb_yJ0_checkBoundsBeginEnd_23922 : CB yJ0_checkBoundsBeginEnd_23922 cJ0_checkBoundsBeginEnd_23922 3 (none) 3 := ⟨jv_Tt 695 (by decide +kernel) rfl, jv_Tt 29 (by decide +kernel) rfl, by decide +kernel, by decide⟩
theorem cw_J2_241 : CWS RJ2 241 yJ0_checkBoundsBeginEnd_23922 cJ0_checkBoundsBeginEnd_23922 3 (none) 3 := ⟨cb_yJ0_checkBoundsBeginEnd_23922, jv_Tt 693 (by decide +kernel) rfl, jv_Tt 694 (by decide +kernel) rfl⟩
theorem cb_yJ2_getChars_ba4f3 : CB yJ2_getChars_ba4f3 cJ2_getChars_ba4f3 7 (some FieldType.int) 3 := ⟨jv_Tt 775 (by decide +kernel) rfl, jv_Tt 30 (by decide +kernel) rfl, by decide +kernel, by decide⟩
theorem cw_J2_393 : CWS RJ2 393 yJ2_getChars_ba4f3 cJ2_getChars_ba4f3 7 (some FieldType.int) 3 := ⟨cb_yJ2_getChars_ba4f3, jv_Tt 773 (by decide +kernel) rfl, jv_Tt 774 (by decide +kernel) rfl⟩
theorem cb_yJ0_checkBoundsOffCount_cabcc : CB yJ0_checkBoundsOffCount_cabcc cJ0_checkBoundsOffCount_cabcc 3 (some FieldType.int) 3 := ⟨jv_Tt 743 (by decide +kernel) rfl, jv_Tt 29 (by decide +kernel) rfl, by decide +kernel, by decide⟩
theorem cw_J2_419 : CWS RJ2 419 yJ0_checkBoundsOffCount_cabcc cJ0_checkBoundsOffCount_cabcc 3 (some FieldType.int) 3 := ⟨cb_yJ0_checkBoundsOffCount_cabcc, jv_Tt 741 (by decide +kernel) rfl, jv_Tt 742 (by decide +kernel) rfl⟩
theorem ml_Jxa1e45_1 : Cond.methodLink RJxa1e45 1 objectInit ∈ jv_T := jv_Tt 74 (by decide +kernel) rfl
theorem cb_yJxa1e45_init_da8c8 : CB yJxa1e45_init_da8c8 cJxa1e45_init_da8c8 1 (none) 0 := ⟨jv_Tt 73 (by decide +kernel) rfl, jv_Tt 4 (by decide +kernel) rfl, by decide +kernel, by decide⟩
theorem cw_Jxc12de_1 : CWI RJxc12de 1 yJxa1e45_init_da8c8 cJxa1e45_init_da8c8 1 0 := ⟨cb_yJxa1e45_init_da8c8, jv_Tt 72 (by decide +kernel) rfl, rfl, Or.inl (jv_Tt 71 (by decide +kernel) rfl)⟩
theorem cb_yJxc12de_init_da8c8 : CB yJxc12de_init_da8c8 cJxc12de_init_da8c8 1 (none) 0 := ⟨jv_Tt 70 (by decide +kernel) rfl, jv_Tt 5 (by decide +kernel) rfl, by decide +kernel, by decide⟩
theorem cw_Jx4a65c_1 : CWI RJx4a65c 1 yJxc12de_init_da8c8 cJxc12de_init_da8c8 1 0 := ⟨cb_yJxc12de_init_da8c8, jv_Tt 69 (by decide +kernel) rfl, rfl, Or.inl (jv_Tt 68 (by decide +kernel) rfl)⟩
theorem cb_yJ4_init_da8c8 : CB yJ4_init_da8c8 cJ4_init_da8c8 1 (none) 0 := ⟨jv_Tt 620 (by decide +kernel) rfl, jv_Tt 28 (by decide +kernel) rfl, by decide +kernel, by decide⟩
theorem cw_Jx4a65c_22 : CWI RJx4a65c 22 yJ4_init_da8c8 cJ4_init_da8c8 1 0 := ⟨cb_yJ4_init_da8c8, jv_Tt 619 (by decide +kernel) rfl, rfl, Or.inl (jv_Tt 618 (by decide +kernel) rfl)⟩
theorem cb_yJ4_append_15ec4 : CB yJ4_append_15ec4 cJ4_append_15ec4 2 (some (FieldType.object "java/lang/StringBuilder")) 1 := ⟨jv_Tt 651 (by decide +kernel) rfl, jv_Tt 28 (by decide +kernel) rfl, by decide +kernel, by decide⟩
theorem cw_Jx4a65c_25 : CWV RJx4a65c 25 yJ4_append_15ec4 cJ4_append_15ec4 2 (some (FieldType.object "java/lang/StringBuilder")) 1 := ⟨cb_yJ4_append_15ec4, jv_Tt 648 (by decide +kernel) rfl, jv_Tt 649 (by decide +kernel) rfl, jv_Tt 650 (by decide +kernel) rfl⟩
theorem cb_yJ4_append_bf812 : CB yJ4_append_bf812 cJ4_append_bf812 2 (some (FieldType.object "java/lang/StringBuilder")) 1 := ⟨jv_Tt 756 (by decide +kernel) rfl, jv_Tt 28 (by decide +kernel) rfl, by decide +kernel, by decide⟩
theorem cw_Jx4a65c_29 : CWV RJx4a65c 29 yJ4_append_bf812 cJ4_append_bf812 2 (some (FieldType.object "java/lang/StringBuilder")) 1 := ⟨cb_yJ4_append_bf812, jv_Tt 753 (by decide +kernel) rfl, jv_Tt 754 (by decide +kernel) rfl, jv_Tt 755 (by decide +kernel) rfl⟩
theorem cb_yJ4_toString_0e30d : CB yJ4_toString_0e30d cJ4_toString_0e30d 1 (some (FieldType.object "java/lang/String")) 0 := ⟨jv_Tt 782 (by decide +kernel) rfl, jv_Tt 28 (by decide +kernel) rfl, by decide +kernel, by decide⟩
theorem cw_Jx4a65c_32 : CWV RJx4a65c 32 yJ4_toString_0e30d cJ4_toString_0e30d 1 (some (FieldType.object "java/lang/String")) 0 := ⟨cb_yJ4_toString_0e30d, jv_Tt 779 (by decide +kernel) rfl, jv_Tt 780 (by decide +kernel) rfl, jv_Tt 781 (by decide +kernel) rfl⟩
theorem cb_yJ7_copyOf_1904c : CB yJ7_copyOf_1904c cJ7_copyOf_1904c 2 (some (FieldType.array (FieldType.object "java/lang/Object"))) 2 := ⟨jv_Tt 455 (by decide +kernel) rfl, jv_Tt 22 (by decide +kernel) rfl, by decide +kernel, by decide⟩
theorem cw_Jx4a65c_66 : CWS RJx4a65c 66 yJ7_copyOf_1904c cJ7_copyOf_1904c 2 (some (FieldType.array (FieldType.object "java/lang/Object"))) 2 := ⟨cb_yJ7_copyOf_1904c, jv_Tt 453 (by decide +kernel) rfl, jv_Tt 454 (by decide +kernel) rfl⟩
theorem cb_yJx4a65c_grow_92f84 : CB yJx4a65c_grow_92f84 cJx4a65c_grow_92f84 4 (some (FieldType.array (FieldType.object "java/lang/Object"))) 1 := ⟨jv_Tt 442 (by decide +kernel) rfl, jv_Tt 6 (by decide +kernel) rfl, by decide +kernel, by decide⟩
theorem cw_Jx4a65c_69 : CWV RJx4a65c 69 yJx4a65c_grow_92f84 cJx4a65c_grow_92f84 4 (some (FieldType.array (FieldType.object "java/lang/Object"))) 1 := ⟨cb_yJx4a65c_grow_92f84, jv_Tt 439 (by decide +kernel) rfl, jv_Tt 441 (by decide +kernel) rfl, jv_Tp 5 (by decide +kernel) rfl⟩
theorem cw_Jx4a65c_73 : CWS RJx4a65c 73 yJ8_newLength_cabcc cJ8_newLength_cabcc 4 (some FieldType.int) 3 := ⟨cb_yJ8_newLength_cabcc, jv_Tt 443 (by decide +kernel) rfl, jv_Tt 444 (by decide +kernel) rfl⟩
theorem cw_Jx4a65c_79 : CWS RJx4a65c 79 yJ9_max_7cf53 cJ9_max_7cf53 2 (some FieldType.int) 2 := ⟨cb_yJ9_max_7cf53, jv_Tt 489 (by decide +kernel) rfl, jv_Tt 447 (by decide +kernel) rfl⟩
theorem cb_yJ15_checkIndex_7cf53 : CB yJ15_checkIndex_7cf53 cJ15_checkIndex_7cf53 2 (some FieldType.int) 2 := ⟨jv_Tt 262 (by decide +kernel) rfl, jv_Tt 17 (by decide +kernel) rfl, by decide +kernel, by decide⟩
theorem cw_Jx4a65c_118 : CWS RJx4a65c 118 yJ15_checkIndex_7cf53 cJ15_checkIndex_7cf53 2 (some FieldType.int) 2 := ⟨cb_yJ15_checkIndex_7cf53, jv_Tt 260 (by decide +kernel) rfl, jv_Tt 261 (by decide +kernel) rfl⟩
theorem cb_yJx4a65c_elementData_915e3 : CB yJx4a65c_elementData_915e3 cJx4a65c_elementData_915e3 2 (some (FieldType.object "java/lang/Object")) 1 := ⟨jv_Tt 269 (by decide +kernel) rfl, jv_Tt 6 (by decide +kernel) rfl, by decide +kernel, by decide⟩
theorem cw_Jx4a65c_123 : CWV RJx4a65c 123 yJx4a65c_elementData_915e3 cJx4a65c_elementData_915e3 2 (some (FieldType.object "java/lang/Object")) 1 := ⟨cb_yJx4a65c_elementData_915e3, jv_Tt 266 (by decide +kernel) rfl, jv_Tt 267 (by decide +kernel) rfl, jv_Tt 268 (by decide +kernel) rfl⟩
theorem cb_yJx4a65c_grow_d5877 : CB yJx4a65c_grow_d5877 cJx4a65c_grow_d5877 1 (some (FieldType.array (FieldType.object "java/lang/Object"))) 0 := ⟨jv_Tt 438 (by decide +kernel) rfl, jv_Tt 6 (by decide +kernel) rfl, by decide +kernel, by decide⟩
theorem cw_Jx4a65c_129 : CWV RJx4a65c 129 yJx4a65c_grow_d5877 cJx4a65c_grow_d5877 1 (some (FieldType.array (FieldType.object "java/lang/Object"))) 0 := ⟨cb_yJx4a65c_grow_d5877, jv_Tt 435 (by decide +kernel) rfl, jv_Tt 437 (by decide +kernel) rfl, jv_Tp 4 (by decide +kernel) rfl⟩
theorem cb_yJx4a65c_add_72be8 : CB yJx4a65c_add_72be8 cJx4a65c_add_72be8 4 (none) 3 := ⟨jv_Tt 434 (by decide +kernel) rfl, jv_Tt 6 (by decide +kernel) rfl, by decide +kernel, by decide⟩
theorem cw_Jx4a65c_131 : CWV RJx4a65c 131 yJx4a65c_add_72be8 cJx4a65c_add_72be8 4 (none) 3 := ⟨cb_yJx4a65c_add_72be8, jv_Tt 431 (by decide +kernel) rfl, jv_Tt 433 (by decide +kernel) rfl, jv_Tp 3 (by decide +kernel) rfl⟩
theorem cb_yJx4a65c_rangeCheckForAdd_d00df : CB yJx4a65c_rangeCheckForAdd_d00df cJx4a65c_rangeCheckForAdd_d00df 2 (none) 1 := ⟨jv_Tt 602 (by decide +kernel) rfl, jv_Tt 6 (by decide +kernel) rfl, by decide +kernel, by decide⟩
theorem cw_Jx4a65c_135 : CWV RJx4a65c 135 yJx4a65c_rangeCheckForAdd_d00df cJx4a65c_rangeCheckForAdd_d00df 2 (none) 1 := ⟨cb_yJx4a65c_rangeCheckForAdd_d00df, jv_Tt 599 (by decide +kernel) rfl, jv_Tt 601 (by decide +kernel) rfl, jv_Tp 10 (by decide +kernel) rfl⟩
theorem cb_yJx4a65c_fastRemove_b59b0 : CB yJx4a65c_fastRemove_b59b0 cJx4a65c_fastRemove_b59b0 4 (none) 2 := ⟨jv_Tt 523 (by decide +kernel) rfl, jv_Tt 6 (by decide +kernel) rfl, by decide +kernel, by decide⟩
theorem cw_Jx4a65c_144 : CWV RJx4a65c 144 yJx4a65c_fastRemove_b59b0 cJx4a65c_fastRemove_b59b0 4 (none) 2 := ⟨cb_yJx4a65c_fastRemove_b59b0, jv_Tt 520 (by decide +kernel) rfl, jv_Tt 522 (by decide +kernel) rfl, jv_Tp 8 (by decide +kernel) rfl⟩
theorem cb_yJx4a65c_outOfBoundsMsg_b52d3 : CB yJx4a65c_outOfBoundsMsg_b52d3 cJx4a65c_outOfBoundsMsg_b52d3 2 (some (FieldType.object "java/lang/String")) 1 := ⟨jv_Tt 615 (by decide +kernel) rfl, jv_Tt 6 (by decide +kernel) rfl, by decide +kernel, by decide⟩
theorem cw_Jx4a65c_198 : CWV RJx4a65c 198 yJx4a65c_outOfBoundsMsg_b52d3 cJx4a65c_outOfBoundsMsg_b52d3 2 (some (FieldType.object "java/lang/String")) 1 := ⟨cb_yJx4a65c_outOfBoundsMsg_b52d3, jv_Tt 612 (by decide +kernel) rfl, jv_Tt 614 (by decide +kernel) rfl, jv_Tp 11 (by decide +kernel) rfl⟩
theorem cw_J7_47 : CWI RJ7 47 yJ4_init_da8c8 cJ4_init_da8c8 1 0 := ⟨cb_yJ4_init_da8c8, jv_Tt 619 (by decide +kernel) rfl, rfl, Or.inl (jv_Tt 817 (by decide +kernel) rfl)⟩
theorem cw_J7_50 : CWV RJ7 50 yJ4_append_15ec4 cJ4_append_15ec4 2 (some (FieldType.object "java/lang/StringBuilder")) 1 := ⟨cb_yJ4_append_15ec4, jv_Tt 820 (by decide +kernel) rfl, jv_Tt 649 (by decide +kernel) rfl, jv_Tt 650 (by decide +kernel) rfl⟩
theorem cw_J7_54 : CWV RJ7 54 yJ4_append_bf812 cJ4_append_bf812 2 (some (FieldType.object "java/lang/StringBuilder")) 1 := ⟨cb_yJ4_append_bf812, jv_Tt 818 (by decide +kernel) rfl, jv_Tt 754 (by decide +kernel) rfl, jv_Tt 755 (by decide +kernel) rfl⟩
theorem cw_J7_61 : CWV RJ7 61 yJ4_toString_0e30d cJ4_toString_0e30d 1 (some (FieldType.object "java/lang/String")) 0 := ⟨cb_yJ4_toString_0e30d, jv_Tt 821 (by decide +kernel) rfl, jv_Tt 780 (by decide +kernel) rfl, jv_Tt 781 (by decide +kernel) rfl⟩
theorem cb_yJ7_copyOf_6403c : CB yJ7_copyOf_6403c cJ7_copyOf_6403c 4 (some (FieldType.array (FieldType.object "java/lang/Object"))) 3 := ⟨jv_Tt 479 (by decide +kernel) rfl, jv_Tt 22 (by decide +kernel) rfl, by decide +kernel, by decide⟩
theorem cw_J7_300 : CWS RJ7 300 yJ7_copyOf_6403c cJ7_copyOf_6403c 4 (some (FieldType.array (FieldType.object "java/lang/Object"))) 3 := ⟨cb_yJ7_copyOf_6403c, jv_Tt 477 (by decide +kernel) rfl, jv_Tt 478 (by decide +kernel) rfl⟩
theorem cw_J7_304 : CWS RJ7 304 yJ9_min_7cf53 cJ9_min_7cf53 2 (some FieldType.int) 2 := ⟨cb_yJ9_min_7cf53, jv_Tt 483 (by decide +kernel) rfl, jv_Tt 484 (by decide +kernel) rfl⟩
theorem cb_yJ7_copyOfRangeByte_39247 : CB yJ7_copyOfRangeByte_39247 cJ7_copyOfRangeByte_39247 5 (some (FieldType.array FieldType.byte)) 3 := ⟨jv_Tt 811 (by decide +kernel) rfl, jv_Tt 22 (by decide +kernel) rfl, by decide +kernel, by decide⟩
theorem cw_J7_339 : CWS RJ7 339 yJ7_copyOfRangeByte_39247 cJ7_copyOfRangeByte_39247 5 (some (FieldType.array FieldType.byte)) 3 := ⟨cb_yJ7_copyOfRangeByte_39247, jv_Tt 809 (by decide +kernel) rfl, jv_Tt 810 (by decide +kernel) rfl⟩
theorem cb_yJ7_checkLength_df160 : CB yJ7_checkLength_df160 cJ7_checkLength_df160 2 (none) 2 := ⟨jv_Tt 814 (by decide +kernel) rfl, jv_Tt 22 (by decide +kernel) rfl, by decide +kernel, by decide⟩
theorem cw_J7_343 : CWS RJ7 343 yJ7_checkLength_df160 cJ7_checkLength_df160 2 (none) 2 := ⟨cb_yJ7_checkLength_df160, jv_Tt 812 (by decide +kernel) rfl, jv_Tt 813 (by decide +kernel) rfl⟩
theorem cb_yJ3_checkIndex_8e157 : CB yJ3_checkIndex_8e157 cJ3_checkIndex_8e157 3 (some FieldType.int) 3 := ⟨jv_Tt 265 (by decide +kernel) rfl, jv_Tt 18 (by decide +kernel) rfl, by decide +kernel, by decide⟩
theorem cw_J15_105 : CWS RJ15 105 yJ3_checkIndex_8e157 cJ3_checkIndex_8e157 3 (some FieldType.int) 3 := ⟨cb_yJ3_checkIndex_8e157, jv_Tt 263 (by decide +kernel) rfl, jv_Tt 264 (by decide +kernel) rfl⟩
theorem cw_J8_194 : CWS RJ8 194 yJ9_max_7cf53 cJ9_max_7cf53 2 (some FieldType.int) 2 := ⟨cb_yJ9_max_7cf53, jv_Tt 446 (by decide +kernel) rfl, jv_Tt 447 (by decide +kernel) rfl⟩
theorem cb_yJ8_hugeLength_7cf53 : CB yJ8_hugeLength_7cf53 cJ8_hugeLength_7cf53 3 (some FieldType.int) 2 := ⟨jv_Tt 452 (by decide +kernel) rfl, jv_Tt 20 (by decide +kernel) rfl, by decide +kernel, by decide⟩
theorem cw_J8_201 : CWS RJ8 201 yJ8_hugeLength_7cf53 cJ8_hugeLength_7cf53 3 (some FieldType.int) 2 := ⟨cb_yJ8_hugeLength_7cf53, jv_Tt 450 (by decide +kernel) rfl, jv_Tt 451 (by decide +kernel) rfl⟩
theorem cb_yX8_init : CB yX8_init cX8_init 1 (none) 0 := ⟨jv_Tt 47 (by decide +kernel) rfl, jv_Tt 2 (by decide +kernel) rfl, by decide +kernel, by decide⟩
theorem cw_X11_11 : CWI RX11 11 yX8_init cX8_init 1 0 := ⟨cb_yX8_init, jv_Tt 46 (by decide +kernel) rfl, rfl, Or.inr ⟨"RankedSearch", jv_Nm 45 (by decide +kernel) rfl⟩⟩
theorem cb_yX4_init : CB yX4_init cX4_init 1 (none) 0 := ⟨jv_Tt 61 (by decide +kernel) rfl, jv_Tt 3 (by decide +kernel) rfl, by decide +kernel, by decide⟩
theorem cw_X11_18 : CWI RX11 18 yX4_init cX4_init 1 0 := ⟨cb_yX4_init, jv_Tt 60 (by decide +kernel) rfl, rfl, Or.inr ⟨"RankedSearch", jv_Nm 59 (by decide +kernel) rfl⟩⟩
theorem cb_yX7_init : CB yX7_init cX7_init 1 (none) 0 := ⟨jv_Tt 186 (by decide +kernel) rfl, jv_Tt 10 (by decide +kernel) rfl, by decide +kernel, by decide⟩
theorem cw_X11_32 : CWI RX11 32 yX7_init cX7_init 1 0 := ⟨cb_yX7_init, jv_Tt 185 (by decide +kernel) rfl, rfl, Or.inr ⟨"RankedSearch", jv_Nm 184 (by decide +kernel) rfl⟩⟩
theorem cb_yX0_init : CB yX0_init cX0_init 1 (none) 0 := ⟨jv_Tt 199 (by decide +kernel) rfl, jv_Tt 11 (by decide +kernel) rfl, by decide +kernel, by decide⟩
theorem cw_X11_39 : CWI RX11 39 yX0_init cX0_init 1 0 := ⟨cb_yX0_init, jv_Tt 198 (by decide +kernel) rfl, rfl, Or.inr ⟨"RankedSearch", jv_Nm 197 (by decide +kernel) rfl⟩⟩
theorem cb_yX10_init : CB yX10_init cX10_init 1 (none) 0 := ⟨jv_Tt 563 (by decide +kernel) rfl, jv_Tt 25 (by decide +kernel) rfl, by decide +kernel, by decide⟩
theorem cw_X3_62 : CWI RX3 62 yX10_init cX10_init 1 0 := ⟨cb_yX10_init, jv_Tt 562 (by decide +kernel) rfl, rfl, Or.inr ⟨"RankedSearch", jv_Nm 561 (by decide +kernel) rfl⟩⟩
theorem cb_yX3_init : CB yX3_init cX3_init 1 (none) 0 := ⟨jv_Tt 93 (by decide +kernel) rfl, jv_Tt 7 (by decide +kernel) rfl, by decide +kernel, by decide⟩
theorem cw_X4_20 : CWI RX4 20 yX3_init cX3_init 1 0 := ⟨cb_yX3_init, jv_Tt 92 (by decide +kernel) rfl, rfl, Or.inr ⟨"RankedSearch", jv_Nm 91 (by decide +kernel) rfl⟩⟩
theorem cb_yX5_init : CB yX5_init cX5_init 1 (none) 0 := ⟨jv_Tt 869 (by decide +kernel) rfl, jv_Tt 34 (by decide +kernel) rfl, by decide +kernel, by decide⟩
theorem cw_X4_146 : CWI RX4 146 yX5_init cX5_init 1 0 := ⟨cb_yX5_init, jv_Tt 868 (by decide +kernel) rfl, rfl, Or.inr ⟨"RankedSearch", jv_Nm 867 (by decide +kernel) rfl⟩⟩
theorem cb_yX9_init : CB yX9_init cX9_init 1 (none) 0 := ⟨jv_Tt 131 (by decide +kernel) rfl, jv_Tt 9 (by decide +kernel) rfl, by decide +kernel, by decide⟩
theorem cw_X6_17 : CWI RX6 17 yX9_init cX9_init 1 0 := ⟨cb_yX9_init, jv_Tt 130 (by decide +kernel) rfl, rfl, Or.inr ⟨"RankedSearch", jv_Nm 129 (by decide +kernel) rfl⟩⟩
theorem nw_X11_9 : NW RX11 9 7 2 [.null, .int 0] := ⟨RX8, TX8, rfl, jv_Tt 43 (by decide +kernel) rfl, jv_Tt 44 (by decide +kernel) rfl, jv_Tt 2 (by decide +kernel) rfl, ui_X8, tyX8, tyX8_ok, fun j hj => match j, hj with | 0, _ => rfl | 1, _ => rfl⟩
theorem wc_X11_9 : Cond.classLink RX11 9 "RankedSearch$Tape" ∈ jv_T := jv_Tt 43 (by decide +kernel) rfl
theorem nw_X11_16 : NW RX11 16 3 4 [.null, .null, .int 0, .null] := ⟨RX4, TX4, rfl, jv_Tt 57 (by decide +kernel) rfl, jv_Tt 58 (by decide +kernel) rfl, jv_Tt 3 (by decide +kernel) rfl, ui_X4, tyX4, tyX4_ok, fun j hj => match j, hj with | 0, _ => rfl | 1, _ => rfl | 2, _ => rfl | 3, _ => rfl⟩
theorem wc_X11_16 : Cond.classLink RX11 16 "RankedSearch$Library" ∈ jv_T := jv_Tt 57 (by decide +kernel) rfl
theorem nw_X11_23 : NW RX11 23 5 6 [.null, .int 0, .null, .int 0, .int 0, .int 0] := ⟨RX6, TX6, rfl, jv_Tt 120 (by decide +kernel) rfl, jv_Tt 121 (by decide +kernel) rfl, jv_Tt 8 (by decide +kernel) rfl, ui_X6, tyX6, tyX6_ok, fun j hj => match j, hj with | 0, _ => rfl | 1, _ => rfl | 2, _ => rfl | 3, _ => rfl | 4, _ => rfl | 5, _ => rfl⟩
theorem wc_X11_23 : Cond.classLink RX11 23 "RankedSearch$Query" ∈ jv_T := jv_Tt 120 (by decide +kernel) rfl
theorem nw_X11_30 : NW RX11 30 6 2 [.null, .int 0] := ⟨RX7, TX7, rfl, jv_Tt 182 (by decide +kernel) rfl, jv_Tt 183 (by decide +kernel) rfl, jv_Tt 10 (by decide +kernel) rfl, ui_X7, tyX7, tyX7_ok, fun j hj => match j, hj with | 0, _ => rfl | 1, _ => rfl⟩
theorem wc_X11_30 : Cond.classLink RX11 30 "RankedSearch$Search" ∈ jv_T := jv_Tt 182 (by decide +kernel) rfl
theorem nw_X11_37 : NW RX11 37 0 4 [.null, .null, .int 0, .int 0] := ⟨RX0, TX0, rfl, jv_Tt 195 (by decide +kernel) rfl, jv_Tt 196 (by decide +kernel) rfl, jv_Tt 11 (by decide +kernel) rfl, ui_X0, tyX0, tyX0_ok, fun j hj => match j, hj with | 0, _ => rfl | 1, _ => rfl | 2, _ => rfl | 3, _ => rfl⟩
theorem wc_X11_37 : Cond.classLink RX11 37 "RankedSearch$Best" ∈ jv_T := jv_Tt 195 (by decide +kernel) rfl
theorem wc_X11_44 : Cond.classLink RX11 44 "java/lang/IllegalArgumentException" ∈ jv_T := jv_Tt 292 (by decide +kernel) rfl
theorem wc_X11_178 : Cond.classLink RX11 178 "java/lang/IndexOutOfBoundsException" ∈ jv_T := jv_Tt 1103 (by decide +kernel) rfl
theorem nw_X3_9 : NW RX3 9 12 3 [.int 0, .null, .int 0] := ⟨RJx4a65c, TJx4a65c, rfl, jv_Tt 95 (by decide +kernel) rfl, jv_Tt 64 (by decide +kernel) rfl, jv_Tt 6 (by decide +kernel) rfl, ui_Jx4a65c, tyJx4a65c, tyJx4a65c_ok, fun j hj => match j, hj with | 0, _ => rfl | 1, _ => rfl | 2, _ => rfl⟩
theorem wc_X3_9 : Cond.classLink RX3 9 "java/util/ArrayList" ∈ jv_T := jv_Tt 95 (by decide +kernel) rfl
theorem nw_X3_26 : NW RX3 26 9 5 [.long 0, .int 0, .int 0, .null, .null] := ⟨RX10, TX10, rfl, jv_Tt 270 (by decide +kernel) rfl, jv_Tt 560 (by decide +kernel) rfl, jv_Tt 25 (by decide +kernel) rfl, ui_X10, tyX10, tyX10_ok, fun j hj => match j, hj with | 0, _ => rfl | 1, _ => rfl | 2, _ => rfl | 3, _ => rfl | 4, _ => rfl⟩
theorem wc_X3_26 : Cond.classLink RX3 26 "RankedSearch$Word" ∈ jv_T := jv_Tt 270 (by decide +kernel) rfl
theorem nw_X4_9 : NW RX4 9 12 3 [.int 0, .null, .int 0] := ⟨RJx4a65c, TJx4a65c, rfl, jv_Tt 63 (by decide +kernel) rfl, jv_Tt 64 (by decide +kernel) rfl, jv_Tt 6 (by decide +kernel) rfl, ui_Jx4a65c, tyJx4a65c, tyJx4a65c_ok, fun j hj => match j, hj with | 0, _ => rfl | 1, _ => rfl | 2, _ => rfl⟩
theorem wc_X4_9 : Cond.classLink RX4 9 "java/util/ArrayList" ∈ jv_T := jv_Tt 63 (by decide +kernel) rfl
theorem nw_X4_18 : NW RX4 18 2 2 [.null, .null] := ⟨RX3, TX3, rfl, jv_Tt 89 (by decide +kernel) rfl, jv_Tt 90 (by decide +kernel) rfl, jv_Tt 7 (by decide +kernel) rfl, ui_X3, tyX3, tyX3_ok, fun j hj => match j, hj with | 0, _ => rfl | 1, _ => rfl⟩
theorem wc_X4_18 : Cond.classLink RX4 18 "RankedSearch$Lexicon" ∈ jv_T := jv_Tt 89 (by decide +kernel) rfl
theorem nw_X4_40 : NW RX4 40 1 8 [.int 0, .int 0, .null, .int 0, .int 0, .int 0, .int 0, .null] := ⟨RX1, TX1, rfl, jv_Tt 391 (by decide +kernel) rfl, jv_Tt 392 (by decide +kernel) rfl, jv_Tt 19 (by decide +kernel) rfl, ui_X1, tyX1, tyX1_ok, fun j hj => match j, hj with | 0, _ => rfl | 1, _ => rfl | 2, _ => rfl | 3, _ => rfl | 4, _ => rfl | 5, _ => rfl | 6, _ => rfl | 7, _ => rfl⟩
theorem wc_X4_40 : Cond.classLink RX4 40 "RankedSearch$Document" ∈ jv_T := jv_Tt 391 (by decide +kernel) rfl
theorem nw_X4_97 : NW RX4 97 4 6 [.null, .null, .int 0, .null, .null, .null] := ⟨RX5, TX5, rfl, jv_Tt 865 (by decide +kernel) rfl, jv_Tt 866 (by decide +kernel) rfl, jv_Tt 34 (by decide +kernel) rfl, ui_X5, tyX5, tyX5_ok, fun j hj => match j, hj with | 0, _ => rfl | 1, _ => rfl | 2, _ => rfl | 3, _ => rfl | 4, _ => rfl | 5, _ => rfl⟩
theorem wc_X4_97 : Cond.classLink RX4 97 "RankedSearch$Posting" ∈ jv_T := jv_Tt 865 (by decide +kernel) rfl
theorem nw_X6_9 : NW RX6 9 8 6 [.int 0, .int 0, .int 0, .long 0, .int 0, .int 0] := ⟨RX9, TX9, rfl, jv_Tt 126 (by decide +kernel) rfl, jv_Tt 128 (by decide +kernel) rfl, jv_Tt 9 (by decide +kernel) rfl, ui_X9, tyX9, tyX9_ok, fun j hj => match j, hj with | 0, _ => rfl | 1, _ => rfl | 2, _ => rfl | 3, _ => rfl | 4, _ => rfl | 5, _ => rfl⟩
theorem wc_X6_9 : Cond.classLink RX6 9 "RankedSearch$Term" ∈ jv_T := jv_Tt 126 (by decide +kernel) rfl
theorem nw_L_8 : NW RL 8 10 5 [.null, .null, .null, .null, .null] := ⟨RX11, TX11, rfl, jv_Tt 35 (by decide +kernel) rfl, jv_Tt 36 (by decide +kernel) rfl, jv_Tt 1 (by decide +kernel) rfl, ui_X11, tyX11, tyX11_ok, fun j hj => match j, hj with | 0, _ => rfl | 1, _ => rfl | 2, _ => rfl | 3, _ => rfl | 4, _ => rfl⟩
theorem wc_L_8 : Cond.classLink RL 8 "RankedSearch" ∈ jv_T := jv_Tt 35 (by decide +kernel) rfl
theorem wc_L_13 : Cond.classLink RL 13 "java/lang/IllegalArgumentException" ∈ jv_T := jv_Tt 287 (by decide +kernel) rfl
theorem wc_L_39 : Cond.classLink RL 39 "java/lang/IndexOutOfBoundsException" ∈ jv_T := jv_Tt 1094 (by decide +kernel) rfl
theorem nw_L_45 : NW RL 45 11 27 [.int 0, .int 0, .null, .int 0, .null, .null, .null, .int 0, .null, .int 0, .null, .null, .null, .null, .null, .int 0, .int 0, .int 0, .null, .int 0, .null, .null, .int 0, .null, .null, .null, .null] := ⟨RX12, TX12, rfl, jv_Tt 1115 (by decide +kernel) rfl, jv_Tt 1116 (by decide +kernel) rfl, jv_Tt 12 (by decide +kernel) rfl, ui_X12, tyX12, tyX12_ok, lt_s (lt_s (lt_s (lt_s (lt_s (lt_s (lt_s (lt_s (lt_s (lt_s (lt_s (lt_s (lt_s (lt_s (lt_s (lt_s (lt_s (lt_s (lt_s (lt_s (lt_s (lt_s (lt_s (lt_s (lt_s (lt_s (lt_s (lt_0) rfl) rfl) rfl) rfl) rfl) rfl) rfl) rfl) rfl) rfl) rfl) rfl) rfl) rfl) rfl) rfl) rfl) rfl) rfl) rfl) rfl) rfl) rfl) rfl) rfl) rfl) rfl⟩
theorem wc_L_45 : Cond.classLink RL 45 "RankedSearchModel" ∈ jv_T := jv_Tt 1115 (by decide +kernel) rfl
theorem wc_J4_18 : Cond.classLink RJ4 18 "java/lang/String" ∈ jv_T := jv_Tt 783 (by decide +kernel) rfl
theorem wc_Jx4a65c_7 : Cond.classLink RJx4a65c 7 "java/lang/Object" ∈ jv_T := jv_Tt 490 (by decide +kernel) rfl
theorem wc_Jx4a65c_20 : Cond.classLink RJx4a65c 20 "java/lang/StringBuilder" ∈ jv_T := jv_Tt 616 (by decide +kernel) rfl
theorem wc_Jx4a65c_187 : Cond.classLink RJx4a65c 187 "java/lang/IndexOutOfBoundsException" ∈ jv_T := jv_Tt 603 (by decide +kernel) rfl
theorem wc_J7_2 : Cond.classLink RJ7 2 "java/lang/Object" ∈ jv_T := jv_Tt 482 (by decide +kernel) rfl
theorem wc_J7_43 : Cond.classLink RJ7 43 "java/lang/IllegalArgumentException" ∈ jv_T := jv_Tt 815 (by decide +kernel) rfl
theorem wc_J7_45 : Cond.classLink RJ7 45 "java/lang/StringBuilder" ∈ jv_T := jv_Tt 816 (by decide +kernel) rfl
theorem wc_J7_110 : Cond.classLink RJ7 110 "[Ljava/lang/Object;" ∈ jv_T := jv_Tt 480 (by decide +kernel) rfl
theorem wc_J7_311 : Cond.classLink RJ7 311 "[B" ∈ jv_T := jv_Tt 678 (by decide +kernel) rfl
theorem kc_X12_61 : Cond.constant RX12 61 (32768 : Int32) ∈ jv_T := jv_Tt 1121 (by decide +kernel) rfl
theorem kc_J5_39 : Cond.constant RJ5 39 (2147483647 : Int32) ∈ jv_T := jv_Tt 668 (by decide +kernel) rfl
theorem kc_J2_20 : Cond.constant RJ2 20 (1073741823 : Int32) ∈ jv_T := jv_Tt 633 (by decide +kernel) rfl
theorem kc_J8_200 : Cond.constant RJ8 200 (2147483639 : Int32) ∈ jv_T := jv_Tt 449 (by decide +kernel) rfl
theorem kl_X11_104 : Cond.constantLong RX11 104 (-1 : Int64) ∈ jv_T := jv_Tt 271 (by decide +kernel) rfl
theorem kl_X2_15 : Cond.constantLong RX2 15 (31 : Int64) ∈ jv_T := jv_Tt 275 (by decide +kernel) rfl
theorem kl_L_48 : Cond.constantLong RL 48 (4294967295 : Int64) ∈ jv_T := jv_Tt 1366 (by decide +kernel) rfl
theorem kl_X12_92 : Cond.constantLong RX12 92 (32767 : Int64) ∈ jv_T := jv_Tt 1286 (by decide +kernel) rfl
theorem kl_X12_117 : Cond.constantLong RX12 117 (255 : Int64) ∈ jv_T := jv_Tt 1214 (by decide +kernel) rfl
theorem kl_X12_133 : Cond.constantLong RX12 133 (-1 : Int64) ∈ jv_T := jv_Tt 1252 (by decide +kernel) rfl
theorem kl_X12_139 : Cond.constantLong RX12 139 (31 : Int64) ∈ jv_T := jv_Tt 1261 (by decide +kernel) rfl
theorem ca_RankedSearch__java_lang_Object : Cond.castable "RankedSearch" "java/lang/Object" ∈ jv_NL := jv_Nm 1377 (by decide +kernel) rfl
theorem ca_RankedSearch_Best__java_lang_Object : Cond.castable "RankedSearch$Best" "java/lang/Object" ∈ jv_NL := jv_Nm 1384 (by decide +kernel) rfl
theorem ca_RankedSearch_Document__java_lang_Object : Cond.castable "RankedSearch$Document" "java/lang/Object" ∈ jv_NL := jv_Nm 1387 (by decide +kernel) rfl
theorem ca_RankedSearch_Lexicon__java_lang_Object : Cond.castable "RankedSearch$Lexicon" "java/lang/Object" ∈ jv_NL := jv_Nm 1381 (by decide +kernel) rfl
theorem ca_RankedSearch_Library__java_lang_Object : Cond.castable "RankedSearch$Library" "java/lang/Object" ∈ jv_NL := jv_Nm 1379 (by decide +kernel) rfl
theorem ca_RankedSearch_Posting__java_lang_Object : Cond.castable "RankedSearch$Posting" "java/lang/Object" ∈ jv_NL := jv_Nm 1392 (by decide +kernel) rfl
theorem ca_RankedSearch_Query__java_lang_Object : Cond.castable "RankedSearch$Query" "java/lang/Object" ∈ jv_NL := jv_Nm 1382 (by decide +kernel) rfl
theorem ca_RankedSearch_Search__java_lang_Object : Cond.castable "RankedSearch$Search" "java/lang/Object" ∈ jv_NL := jv_Nm 1383 (by decide +kernel) rfl
theorem ca_RankedSearch_Tape__java_lang_Object : Cond.castable "RankedSearch$Tape" "java/lang/Object" ∈ jv_NL := jv_Nm 1378 (by decide +kernel) rfl
theorem ca_RankedSearch_Term__java_lang_Object : Cond.castable "RankedSearch$Term" "java/lang/Object" ∈ jv_NL := jv_Nm 1376 (by decide +kernel) rfl
theorem ca_RankedSearch_Word__java_lang_Object : Cond.castable "RankedSearch$Word" "java/lang/Object" ∈ jv_NL := jv_Nm 1388 (by decide +kernel) rfl
theorem ca_RankedSearchModel__java_lang_Object : Cond.castable "RankedSearchModel" "java/lang/Object" ∈ jv_NL := jv_Nm 1385 (by decide +kernel) rfl
theorem ca__B__java_lang_Cloneable : Cond.castable "[B" "java/lang/Cloneable" ∈ jv_NL := jv_Nm 677 (by decide +kernel) rfl
theorem ca__B__java_lang_Object : Cond.castable "[B" "java/lang/Object" ∈ jv_NL := jv_Nm 1397 (by decide +kernel) rfl
theorem ca__I__java_lang_Object : Cond.castable "[I" "java/lang/Object" ∈ jv_NL := jv_Nm 1399 (by decide +kernel) rfl
theorem ca__J__java_lang_Object : Cond.castable "[J" "java/lang/Object" ∈ jv_NL := jv_Nm 1401 (by decide +kernel) rfl
theorem ca__LRankedSearch_Term___java_lang_Object : Cond.castable "[LRankedSearch$Term;" "java/lang/Object" ∈ jv_NL := jv_Nm 1398 (by decide +kernel) rfl
theorem ca__Ljava_lang_Object___java_lang_Object : Cond.castable "[Ljava/lang/Object;" "java/lang/Object" ∈ jv_NL := jv_Nm 1400 (by decide +kernel) rfl
theorem ca__Z__java_lang_Object : Cond.castable "[Z" "java/lang/Object" ∈ jv_NL := jv_Nm 1402 (by decide +kernel) rfl
theorem ca_java_lang_IllegalArgumentException__java_lang_IllegalArgumentException : Cond.castable "java/lang/IllegalArgumentException" "java/lang/IllegalArgumentException" ∈ jv_NL := jv_Nm 294 (by decide +kernel) rfl
theorem ca_java_lang_IllegalArgumentException__java_lang_Object : Cond.castable "java/lang/IllegalArgumentException" "java/lang/Object" ∈ jv_NL := jv_Nm 1386 (by decide +kernel) rfl
theorem ca_java_lang_IndexOutOfBoundsException__java_lang_IndexOutOfBoundsException : Cond.castable "java/lang/IndexOutOfBoundsException" "java/lang/IndexOutOfBoundsException" ∈ jv_NL := jv_Nm 605 (by decide +kernel) rfl
theorem ca_java_lang_IndexOutOfBoundsException__java_lang_Object : Cond.castable "java/lang/IndexOutOfBoundsException" "java/lang/Object" ∈ jv_NL := jv_Nm 1389 (by decide +kernel) rfl
theorem ca_java_lang_String__java_lang_Object : Cond.castable "java/lang/String" "java/lang/Object" ∈ jv_NL := jv_Nm 1391 (by decide +kernel) rfl
theorem ca_java_lang_StringBuilder__java_lang_Object : Cond.castable "java/lang/StringBuilder" "java/lang/Object" ∈ jv_NL := jv_Nm 1390 (by decide +kernel) rfl
theorem ca_java_lang_Throwable__java_lang_Object : Cond.castable "java/lang/Throwable" "java/lang/Object" ∈ jv_NL := jv_Nm 1393 (by decide +kernel) rfl
theorem ca_java_util_ArrayList__java_lang_Object : Cond.castable "java/util/ArrayList" "java/lang/Object" ∈ jv_NL := jv_Nm 1380 (by decide +kernel) rfl
theorem ao_Term : Cond.arrayOver (FieldType.object "RankedSearch$Term") ∈ jv_NL := jv_Nm 127 (by decide +kernel) rfl
theorem ao_Object : Cond.arrayOver (FieldType.object "java/lang/Object") ∈ jv_NL := jv_Nm 481 (by decide +kernel) rfl
theorem ac_byte : Cond.arrayClass FieldType.byte ∈ jv_T := jv_Tt 56 (by decide +kernel) rfl
theorem ac_int : Cond.arrayClass FieldType.int ∈ jv_T := jv_Tt 215 (by decide +kernel) rfl
theorem ac_long : Cond.arrayClass FieldType.long ∈ jv_T := jv_Tt 1204 (by decide +kernel) rfl
theorem ac_boolean : Cond.arrayClass FieldType.boolean ∈ jv_T := jv_Tt 1205 (by decide +kernel) rfl
theorem oi_inst : Cond.instanceMethod objectInit ∈ jv_T := jv_Tt 41 (by decide +kernel) rfl
theorem oi_code : Cond.code objectInit ⟨#[0xb1]⟩ 1 none ∈ jv_T := jv_Tt 42 (by decide +kernel) rfl
theorem ml_ac_Jx4a65c_112 : Cond.methodLink RJx4a65c 112 arraycopyName ∈ jv_T := jv_Tt 524 (by decide +kernel) rfl
theorem ml_ac_J7_150 : Cond.methodLink RJ7 150 arraycopyName ∈ jv_T := jv_Tt 486 (by decide +kernel) rfl
theorem ac_native : Cond.native arraycopyName ∈ jv_T := jv_Tt 488 (by decide +kernel) rfl
theorem ac_static : Cond.static arraycopyName ∈ jv_T := jv_Tt 487 (by decide +kernel) rfl
theorem ac_init : Cond.initialized "java/lang/System" ∈ jv_T := jv_Tt 23 (by decide +kernel) rfl
theorem al_empty : Cond.fieldLink RJx4a65c 39 "java/util/ArrayList" "DEFAULTCAPACITY_EMPTY_ELEMENTDATA" "[Ljava/lang/Object;" ∈ jv_T := jv_Tt 75 (by decide +kernel) rfl
theorem gc_link : Cond.methodLink RJ7 86 gcN ∈ jv_T := jv_Tt 456 (by decide +kernel) rfl
theorem gc_decl : Cond.declares gcN ∈ jv_NL := jv_Nm 1396 (by decide +kernel) rfl
theorem gc_sel : Cond.selects "[Ljava/lang/Object;" gcN gcN ∈ jv_T := jv_Tt 1395 (by decide +kernel) rfl
theorem gc_inst : Cond.instanceMethod gcN ∈ jv_T := jv_Tt 457 (by decide +kernel) rfl
theorem gc_nat : Cond.native gcN ∈ jv_T := jv_Tt 476 (by decide +kernel) rfl
end
section
section JMATH
variable {K : jT} {cc : ByteArray} {nL fr mc ms cells slots pc : Nat} {own : String} {lv : Nat → Option Value} {rest : List Value} {h : jH}
theorem jv_min_eq : yJ9_min_7cf53 = Lib.Math.min.name ∧ cJ9_min_7cf53 = Lib.Math.min.code := ⟨rfl, by decide +kernel⟩
theorem jv_max_eq : yJ9_max_7cf53 = Lib.Math.max.name ∧ cJ9_max_7cf53 = Lib.Math.max.code := ⟨rfl, by decide +kernel⟩
theorem J_mmin (C : JC K cc nL own fr mc ms) {i a b : Nat} (cw : CWS own i yJ9_min_7cf53 cJ9_min_7cf53 2 (some .int) 2) (ha : a < 2147483648) (hb : b < 2147483648) (hfr : 1 ≤ fr) (hW : (rest.map fun v => v.category).sum ≤ 8) (hc : cells ≤ mc) (hs : slots ≤ ms) (d : decode cc pc = .ok (.invokestatic i, 3)) (kk : J K cells slots (pc + 3) lv (.int (nI (min a b)) :: rest) h) : J K cells slots pc lv (.int (nI b) :: .int (nI a) :: rest) h := by
  obtain ⟨p, l, e, R, s, m, args, below, meth, c, G, A, Q⟩ := K
  intro H locs ls hl hR hA hS
  obtain ⟨hexec, hb9, c3, hown, hts, hK, hRoom, c8, hA0, c10, -⟩ := C
  obtain ⟨⟨w1, w2, w3, w4⟩, w5, w6⟩ := cw
  rw [jv_min_eq.1, jv_min_eq.2] at w1
  rw [jv_min_eq.1] at w2 w5 w6
  refine va_mmin hexec hb9 hl.1.symm hown (hts _ w5) (hts _ w6) (hts _ w2) (hts _ w1) (by rw [hRoom]; exact hfr) (by rw [hRoom]; show _ ≤ 50 * fr; omega) (by rw [hRoom]; exact hc) (by rw [hRoom]; exact hs) d ?_
  have e1 : (if nI b < nI a then nI b else nI a) = nI (min a b) := by
    by_cases q : b < a
    · rw [if_pos ((nI_ltI hb ha).mpr q), Nat.min_eq_right (by omega)]
    · rw [if_neg (fun w => q ((nI_ltI hb ha).mp w)), Nat.min_eq_left (by omega)]
  rw [e1]
  exact kk H locs ls hl hR hA hS
theorem J_mmax (C : JC K cc nL own fr mc ms) {i a b : Nat} (cw : CWS own i yJ9_max_7cf53 cJ9_max_7cf53 2 (some .int) 2) (ha : a < 2147483648) (hb : b < 2147483648) (hfr : 1 ≤ fr) (hW : (rest.map fun v => v.category).sum ≤ 8) (hc : cells ≤ mc) (hs : slots ≤ ms) (d : decode cc pc = .ok (.invokestatic i, 3)) (kk : J K cells slots (pc + 3) lv (.int (nI (max a b)) :: rest) h) : J K cells slots pc lv (.int (nI b) :: .int (nI a) :: rest) h := by
  obtain ⟨p, l, e, R, s, m, args, below, meth, c, G, A, Q⟩ := K
  intro H locs ls hl hR hA hS
  obtain ⟨hexec, hb9, c3, hown, hts, hK, hRoom, c8, hA0, c10, -⟩ := C
  obtain ⟨⟨w1, w2, w3, w4⟩, w5, w6⟩ := cw
  rw [jv_max_eq.1, jv_max_eq.2] at w1
  rw [jv_max_eq.1] at w2 w5 w6
  refine va_mmax hexec hb9 hl.1.symm hown (hts _ w5) (hts _ w6) (hts _ w2) (hts _ w1) (by rw [hRoom]; exact hfr) (by rw [hRoom]; show _ ≤ 50 * fr; omega) (by rw [hRoom]; exact hc) (by rw [hRoom]; exact hs) d ?_
  have e1 : (if nI a < nI b then nI b else nI a) = nI (max a b) := by
    by_cases q : a < b
    · rw [if_pos ((nI_ltI ha hb).mpr q), Nat.max_eq_right (by omega)]
    · rw [if_neg (fun w => q ((nI_ltI ha hb).mp w)), Nat.max_eq_left (by omega)]
  rw [e1]
  exact kk H locs ls hl hR hA hS
end JMATH
end
section
/-! Letters: pure functions of a byte, of letters in a long -/
/-- 1 .. 26; 0 for what is no letter -/
def sp_let (b : Nat) : Nat := if 97 ≤ b ∧ b ≤ 122 then b - 96 else if 65 ≤ b ∧ b ≤ 90 then b - 64 else 0
theorem sp_let_lt (b : Nat) : sp_let b < 27 := by unfold sp_let; split <;> (try split) <;> omega
def sp_with (L : Int64) (p c : Nat) : Int64 := L ||| ((nI c).toInt64 <<< ((nI (5 * (11 - p))).toInt64 &&& 63))
def sp_last (L : Int64) (n : Nat) : Int64 := L ||| ((lN 1 <<< ((nI (5 * (12 - n))).toInt64 &&& 63)) - lN 1)
def sp_turn (L : Int64) : Nat → Int64
  | 0 => lN 0
  | i + 1 => sp_turn L i ||| (((L >>> ((nI (5 * (11 - i))).toInt64 &&& 63)) &&& 31) <<< ((nI (5 * i)).toInt64 &&& 63))
set_option maxHeartbeats 4000000 in
theorem c_letterOf (l : jL) (h : jH) (b : Nat) (hb : b < 1000) : Cn l yX2_letterOf cX2_letterOf 1 (some .int) 1 0 0 [.int (nI b)] h (fun r h1 => r = some (.int (nI (sp_let b))) ∧ h1 = h) := by
  refine Cn.of (own := RX2) rfl (by decide) (by exact Nat.le_of_ble_eq_true rfl) (by decide) (fun K hK C D I => ?_)
  refine J_iload_n C rfl dX2_letterOf_0 ?_
  refine J_bipush C (v := nI 97) (by decide) dX2_letterOf_1 ?_
  refine J_nicmp_lt C (by first | omega | (dsimp only; omega)) (by first | omega | (dsimp only; omega)) 19 (by decide) dX2_letterOf_3 (fun z1 => ?_) (fun z1 => ?_)
  · have K1 : J K 0 0 19 (jv_l (lv_args 0 [.int (nI b)])) [] h := by
      refine J_iload_n C rfl dX2_letterOf_19 ?_
      refine J_bipush C (v := nI 65) (by decide) dX2_letterOf_20 ?_
      refine J_nicmp_lt C (by first | omega | (dsimp only; omega)) (by first | omega | (dsimp only; omega)) 38 (by decide) dX2_letterOf_22 (fun z2 => ?_) (fun z2 => ?_)
      · refine J_iconst C (v := nI 0) (by decide) dX2_letterOf_38 ?_
        refine J_iret C D ⟨by rw [show sp_let b = 0 by unfold sp_let; split <;> (try split) <;> omega], rfl⟩ (by omega) (by omega) dX2_letterOf_39
      · refine J_iload_n C rfl dX2_letterOf_25 ?_
        refine J_bipush C (v := nI 90) (by decide) dX2_letterOf_26 ?_
        refine J_nicmp_gt C (by first | omega | (dsimp only; omega)) (by first | omega | (dsimp only; omega)) 38 (by decide) dX2_letterOf_28 (fun z3 => ?_) (fun z3 => ?_)
        · refine J_iconst C (v := nI 0) (by decide) dX2_letterOf_38 ?_
          refine J_iret C D ⟨by rw [show sp_let b = 0 by unfold sp_let; split <;> (try split) <;> omega], rfl⟩ (by omega) (by omega) dX2_letterOf_39
        · refine J_iload_n C rfl dX2_letterOf_31 ?_
          refine J_bipush C (v := nI 65) (by decide) dX2_letterOf_32 ?_
          first | refine J_nisub C (by omega) dX2_letterOf_34 ?_ | refine J_isub C dX2_letterOf_34 ?_
          refine J_iconst C (v := nI 1) (by decide) dX2_letterOf_35 ?_
          first | refine J_niadd C dX2_letterOf_36 ?_ | refine J_iadd C dX2_letterOf_36 ?_
          refine J_iret C D ⟨by rw [show sp_let b = b - 65 + 1 by unfold sp_let; split <;> (try split) <;> omega], rfl⟩ (by omega) (by omega) dX2_letterOf_37
    exact K1
  · refine J_iload_n C rfl dX2_letterOf_6 ?_
    refine J_bipush C (v := nI 122) (by decide) dX2_letterOf_7 ?_
    refine J_nicmp_gt C (by first | omega | (dsimp only; omega)) (by first | omega | (dsimp only; omega)) 19 (by decide) dX2_letterOf_9 (fun z2 => ?_) (fun z2 => ?_)
    · refine J_iload_n C rfl dX2_letterOf_19 ?_
      refine J_bipush C (v := nI 65) (by decide) dX2_letterOf_20 ?_
      refine J_nicmp_lt C (by first | omega | (dsimp only; omega)) (by first | omega | (dsimp only; omega)) 38 (by decide) dX2_letterOf_22 (fun z4 => ?_) (fun z4 => ?_)
      · omega
      · refine J_iload_n C rfl dX2_letterOf_25 ?_
        refine J_bipush C (v := nI 90) (by decide) dX2_letterOf_26 ?_
        refine J_nicmp_gt C (by first | omega | (dsimp only; omega)) (by first | omega | (dsimp only; omega)) 38 (by decide) dX2_letterOf_28 (fun z3 => ?_) (fun z3 => ?_)
        · refine J_iconst C (v := nI 0) (by decide) dX2_letterOf_38 ?_
          refine J_iret C D ⟨by rw [show sp_let b = 0 by unfold sp_let; split <;> (try split) <;> omega], rfl⟩ (by omega) (by omega) dX2_letterOf_39
        · omega
    · refine J_iload_n C rfl dX2_letterOf_12 ?_
      refine J_bipush C (v := nI 97) (by decide) dX2_letterOf_13 ?_
      first | refine J_nisub C (by omega) dX2_letterOf_15 ?_ | refine J_isub C dX2_letterOf_15 ?_
      refine J_iconst C (v := nI 1) (by decide) dX2_letterOf_16 ?_
      first | refine J_niadd C dX2_letterOf_17 ?_ | refine J_iadd C dX2_letterOf_17 ?_
      refine J_iret C D ⟨by rw [show sp_let b = b - 97 + 1 by unfold sp_let; split <;> (try split) <;> omega], rfl⟩ (by omega) (by omega) dX2_letterOf_18
def sp_isl (b : Nat) : Bool := decide (0 < sp_let b)
set_option maxHeartbeats 4000000 in
theorem c_isLetter (l : jL) (h : jH) (b : Nat) (hb : b < 1000) : Cn l yX2_isLetter cX2_isLetter 1 (some .boolean) 2 0 0 [.int (nI b)] h (fun r h1 => r = some (.int (jv_b (sp_isl b))) ∧ h1 = h) := by
  refine Cn.of (own := RX2) rfl (by decide) (by exact Nat.le_of_ble_eq_true rfl) (by decide) (fun K hK C D I => ?_)
  have := sp_let_lt b
  refine J_iload_n C rfl dX2_isLetter_0 ?_
  refine J_callS C (c_letterOf _ h b hb) cw_X2_9 rfl rfl (by exact Nat.le_of_ble_eq_true rfl) (by decide) (by omega) (by omega) dX2_isLetter_1 ?_
  rintro _ _ ⟨rfl, rfl⟩
  refine J_nif_eq C (by first | omega | (dsimp only; omega)) 11 (by decide) dX2_isLetter_4 (fun z1 => ?_) (fun z1 => ?_)
  · refine J_iconst C (v := nI 0) (by decide) dX2_isLetter_11 ?_
    refine J_zret C D (Or.inl rfl) ⟨by unfold sp_isl; rw [z1]; rfl, rfl⟩ (by omega) (by omega) dX2_isLetter_12
  · refine J_iconst C (v := nI 1) (by decide) dX2_isLetter_7 ?_
    refine J_goto C 12 (by decide) dX2_isLetter_8 ?_
    refine J_zret C D (Or.inr rfl) ⟨by unfold sp_isl; rw [decide_eq_true z1]; rfl, rfl⟩ (by omega) (by omega) dX2_isLetter_12
set_option maxHeartbeats 4000000 in
theorem c_with (l : jL) (h : jH) (L : Int64) (p c : Nat) (hp : p < 12) (hc : c < 32) : Cn l yX2_with cX2_with 4 (some .long) 1 0 0 [.long L, .int (nI p), .int (nI c)] h (fun r h1 => r = some (.long (sp_with L p c)) ∧ h1 = h) := by
  refine Cn.of (own := RX2) rfl (by decide) (by exact Nat.le_of_ble_eq_true rfl) (by decide) (fun K hK C D I => ?_)
  refine J_lload_n C rfl dX2_with_0 ?_
  refine J_iload_n C rfl dX2_with_1 ?_
  refine J_i2l C dX2_with_2 ?_
  refine J_iconst C (v := nI 5) (by decide) dX2_with_3 ?_
  refine J_bipush C (v := nI 11) (by decide) dX2_with_4 ?_
  refine J_iload_n C rfl dX2_with_6 ?_
  first | refine J_nisub C (by omega) dX2_with_7 ?_ | refine J_isub C dX2_with_7 ?_
  first | refine J_nimul C dX2_with_8 ?_ | refine J_imul C dX2_with_8 ?_
  refine J_lshl C dX2_with_9 ?_
  refine J_lor C dX2_with_10 ?_
  refine J_lret C D ⟨rfl, rfl⟩ (by omega) (by omega) dX2_with_11
set_option maxHeartbeats 4000000 in
theorem c_lastWithBeginning (l : jL) (h : jH) (L : Int64) (n : Nat) (hn : n ≤ 12) : Cn l yX2_lastWithBeginning cX2_lastWithBeginning 3 (some .long) 1 0 0 [.long L, .int (nI n)] h (fun r h1 => r = some (.long (sp_last L n)) ∧ h1 = h) := by
  refine Cn.of (own := RX2) rfl (by decide) (by exact Nat.le_of_ble_eq_true rfl) (by decide) (fun K hK C D I => ?_)
  refine J_lload_n C rfl dX2_lastWithBeginning_0 ?_
  refine J_lconst C (v := lN 1) (by decide) dX2_lastWithBeginning_1 ?_
  refine J_iconst C (v := nI 5) (by decide) dX2_lastWithBeginning_2 ?_
  refine J_bipush C (v := nI 12) (by decide) dX2_lastWithBeginning_3 ?_
  refine J_iload_n C rfl dX2_lastWithBeginning_5 ?_
  first | refine J_nisub C (by omega) dX2_lastWithBeginning_6 ?_ | refine J_isub C dX2_lastWithBeginning_6 ?_
  first | refine J_nimul C dX2_lastWithBeginning_7 ?_ | refine J_imul C dX2_lastWithBeginning_7 ?_
  refine J_lshl C dX2_lastWithBeginning_8 ?_
  refine J_lconst C (v := lN 1) (by decide) dX2_lastWithBeginning_9 ?_
  refine J_lsub C dX2_lastWithBeginning_10 ?_
  refine J_lor C dX2_lastWithBeginning_11 ?_
  refine J_lret C D ⟨rfl, rfl⟩ (by omega) (by omega) dX2_lastWithBeginning_12
set_option maxHeartbeats 4000000 in
theorem c_firstLowest (l : jL) (h : jH) (L : Int64) : Cn l yX2_firstLowest cX2_firstLowest 7 (some .long) 1 0 0 [.long L] h (fun r h1 => r = some (.long (sp_turn L 12)) ∧ h1 = h) := by
  refine Cn.of (own := RX2) rfl (by decide) (by exact Nat.le_of_ble_eq_true rfl) (by decide) (fun K hK C D I => ?_)
  have loop : ∀ n i : Nat, i + n = 12 → J K 0 0 5 (jv_l [(0, .long L), (2, .long (sp_turn L i)), (4, .int (nI i))]) [] h := by
    intro n
    induction n with
    | zero =>
      intro i hi
      refine J_iload C rfl dX2_firstLowest_5 ?_
      refine J_bipush C (v := nI 12) (by decide) dX2_firstLowest_7 ?_
      refine J_nicmp_ge C (by first | omega | (dsimp only; omega)) (by first | omega | (dsimp only; omega)) 43 (by decide) dX2_firstLowest_9 (fun z1 => ?_) (fun z1 => ?_)
      · refine J_lload_n C rfl dX2_firstLowest_43 ?_
        refine J_lret C D ⟨by rw [show i = 12 by omega], rfl⟩ (by omega) (by omega) dX2_firstLowest_44
      · omega
    | succ n ih =>
      intro i hi
      refine J_iload C rfl dX2_firstLowest_5 ?_
      refine J_bipush C (v := nI 12) (by decide) dX2_firstLowest_7 ?_
      refine J_nicmp_ge C (by first | omega | (dsimp only; omega)) (by first | omega | (dsimp only; omega)) 43 (by decide) dX2_firstLowest_9 (fun z1 => ?_) (fun z1 => ?_)
      · omega
      · refine J_lload_n C rfl dX2_firstLowest_12 ?_
        refine J_iconst C (v := nI 5) (by decide) dX2_firstLowest_13 ?_
        refine J_bipush C (v := nI 11) (by decide) dX2_firstLowest_14 ?_
        refine J_iload C rfl dX2_firstLowest_16 ?_
        first | refine J_nisub C (by omega) dX2_firstLowest_18 ?_ | refine J_isub C dX2_firstLowest_18 ?_
        first | refine J_nimul C dX2_firstLowest_19 ?_ | refine J_imul C dX2_firstLowest_19 ?_
        refine J_lshr C dX2_firstLowest_20 ?_
        refine J_ldc2 C kl_X2_15 dX2_firstLowest_21 ?_
        refine J_land C dX2_firstLowest_24 ?_
        refine J_lstore C (by decide) dX2_firstLowest_25 ?_
        refine J_lload_n C rfl dX2_firstLowest_27 ?_
        refine J_lload C rfl dX2_firstLowest_28 ?_
        refine J_iconst C (v := nI 5) (by decide) dX2_firstLowest_30 ?_
        refine J_iload C rfl dX2_firstLowest_31 ?_
        first | refine J_nimul C dX2_firstLowest_33 ?_ | refine J_imul C dX2_firstLowest_33 ?_
        refine J_lshl C dX2_firstLowest_34 ?_
        refine J_lor C dX2_firstLowest_35 ?_
        refine J_lstore_n C (by decide) dX2_firstLowest_36 ?_
        first | refine J_niinc (b := 1) C rfl (by decide) dX2_firstLowest_37 ?_ | refine J_iinc C rfl (by decide) dX2_firstLowest_37 ?_
        refine J_goto C 5 (by decide) dX2_firstLowest_40 ?_
        refine J_sub (by exact (And.intro rfl (And.intro rfl (And.intro rfl trivial)))) (ih (i + 1) (by omega))
  refine J_lconst C (v := lN 0) (by decide) dX2_firstLowest_0 ?_
  refine J_lstore_n C (by decide) dX2_firstLowest_1 ?_
  refine J_iconst C (v := nI 0) (by decide) dX2_firstLowest_2 ?_
  refine J_istore C (by decide) dX2_firstLowest_3 ?_
  refine J_sub (by exact (And.intro rfl (And.intro rfl (And.intro rfl trivial)))) (loop 12 0 (by omega))
end
section
/-! Tape: an object (bytes, length) and its row of 400 bytes -/
def tp_is (h : jH) (t tb n : Nat) (f : Nat → Int32) : Prop := h t = some (.inr (7, [.ref tb, .int (nI n)])) ∧ h tb = some (.inl (1, 400, .inl f)) ∧ n ≤ 400
/-- the bytes, 0 to 255 -/
def sp_B (f : Nat → Int32) (i : Nat) : Nat := (f i).toBitVec.toNat % 256
theorem sp_B_lt (f : Nat → Int32) (i : Nat) : sp_B f i < 256 := Nat.mod_lt _ (by decide)
theorem sp_B_and (f : Nat → Int32) (i : Nat) : f i &&& nI 255 = nI (sp_B f i) := pk_and (f i) 8 (by decide)
set_option maxHeartbeats 4000000 in
theorem c_Tape_init (l : jL) (h : jH) (t : Nat) (hh : h t = some (.inr (7, [.null, .int 0]))) : Cn l yX8_init cX8_init 1 none 1 1 400 [.ref t] h (fun r h1 => r = none ∧ ∃ tb, h tb = none ∧ tb ≠ t ∧ h1 = jv_up (jv_up h tb (.inl (1, 400, .inl (fun _ => 0)))) t (.inr (7, [.ref tb, .int 0]))) := by
  refine Cn.of (own := RX8) rfl (by decide) (by exact Nat.le_of_ble_eq_true rfl) (by decide) (fun K hK C D I => ?_)
  first | refine J_aload_n C rfl dX8_init_0 ?_ | refine J_aload_nq C rfl dX8_init_0 ?_ | refine J_aload_nN C rfl dX8_init_0 ?_
  refine J_objInit C ml_X8_3 oi_inst oi_code (by decide) (by exact Nat.le_of_ble_eq_true rfl) dX8_init_1 ?_
  first | refine J_aload_n C rfl dX8_init_4 ?_ | refine J_aload_nq C rfl dX8_init_4 ?_ | refine J_aload_nN C rfl dX8_init_4 ?_
  refine J_sipush C (v := nI 400) (by decide) dX8_init_5 ?_
  refine J_newB C ac_byte (N := 400) rfl (by decide) (by decide) (by omega) (by omega) dX8_init_8 (fun q hq => ?_)
  have hne : t ≠ q := fun z => by rw [z, hq] at hh; cases hh
  have hh2 := jv_up_of (x := .inl (1, 400, .inl (fun _ => 0))) hne hh
  refine J_putF C I fl_X8_9 rfl rfl (by first | assumption | exact jv_up_at _ _ _ | (simp [jv_up, *]; done)) (by exact Nat.le_of_ble_eq_true rfl) (by first | rfl | exact jv_nar_a _ _) (by first | rfl | exact jv_fit_a _ _) fw_X8_9 dX8_init_10 ?_
  refine J_vret C D ⟨rfl, q, hq, hne.symm, rfl⟩ (by omega) (by omega) dX8_init_13
set_option maxHeartbeats 4000000 in
theorem c_Tape_length (l : jL) (h : jH) (t tb n : Nat) (f : Nat → Int32) (T : tp_is h t tb n f) : Cn l yX8_length cX8_length 1 (some .int) 1 0 0 [.ref t] h (fun r h1 => r = some (.int (nI n)) ∧ h1 = h) := by
  obtain ⟨T1, T2, T3⟩ := T
  refine Cn.of (own := RX8) rfl (by decide) (by exact Nat.le_of_ble_eq_true rfl) (by decide) (fun K hK C D I => ?_)
  first | refine J_aload_n C rfl dX8_length_0 ?_ | refine J_aload_nq C rfl dX8_length_0 ?_ | refine J_aload_nN C rfl dX8_length_0 ?_
  refine J_get C fl_X8_15 (by first | assumption | exact jv_up_at _ _ _ | (simp [jv_up, *]; done)) (by rfl) dX8_length_1 ?_
  refine J_iret C D ⟨rfl, rfl⟩ (by omega) (by omega) dX8_length_4
set_option maxHeartbeats 4000000 in
theorem c_Tape_empty (l : jL) (h : jH) (t tb n : Nat) (f : Nat → Int32) (T : tp_is h t tb n f) : Cn l yX8_empty cX8_empty 1 none 1 0 0 [.ref t] h (fun r h1 => r = none ∧ h1 = jv_up h t (.inr (7, [.ref tb, .int (nI 0)]))) := by
  obtain ⟨T1, T2, T3⟩ := T
  refine Cn.of (own := RX8) rfl (by decide) (by exact Nat.le_of_ble_eq_true rfl) (by decide) (fun K hK C D I => ?_)
  first | refine J_aload_n C rfl dX8_empty_0 ?_ | refine J_aload_nq C rfl dX8_empty_0 ?_ | refine J_aload_nN C rfl dX8_empty_0 ?_
  refine J_iconst C (v := nI 0) (by decide) dX8_empty_1 ?_
  refine J_put C fl_X8_15 (by first | assumption | exact jv_up_at _ _ _ | (simp [jv_up, *]; done)) (by exact Nat.le_of_ble_eq_true rfl) (by rfl) (by rfl) dX8_empty_2 ?_
  refine J_vret C D ⟨rfl, rfl⟩ (by omega) (by omega) dX8_empty_5
def sp_byte (v : Int64) (i : Nat) : Int32 := (v >>> ((nI (8 * i)).toInt64 &&& 63)).toInt32.toInt8.toInt32
def sp_app (f : Nat → Int32) (n : Nat) (v : Int64) : Nat → Nat → Int32
  | 0 => f
  | i + 1 => upd (sp_app f n v i) (n + i) (vp_nar .byte (sp_byte v i))
set_option maxHeartbeats 4000000 in
theorem c_Tape_append (l : jL) (h : jH) (t tb n : Nat) (f : Nat → Int32) (T : tp_is h t tb n f) (hne : t ≠ tb) (k : Nat) (v : Int64) (hk : 1 ≤ k ∧ k ≤ 8) : Cn l yX8_append cX8_append 5 (some .boolean) 1 0 0 [.ref t, .int (nI k), .long v] h (fun r h1 => (400 < n + k ∧ r = some (.int (jv_b false)) ∧ h1 = h) ∨ (n + k ≤ 400 ∧ r = some (.int (jv_b true)) ∧ h1 = jv_up (jv_up h tb (.inl (1, 400, .inl (sp_app f n v k)))) t (.inr (7, [.ref tb, .int (nI (n + k))])))) := by
  obtain ⟨T1, T2, T3⟩ := T
  refine Cn.of (own := RX8) rfl (by decide) (by exact Nat.le_of_ble_eq_true rfl) (by decide) (fun K hK C D I => ?_)
  refine J_iload_n C rfl dX8_append_0 ?_
  first | refine J_aload_n C rfl dX8_append_1 ?_ | refine J_aload_nq C rfl dX8_append_1 ?_ | refine J_aload_nN C rfl dX8_append_1 ?_
  refine J_get C fl_X8_9 (by first | assumption | exact jv_up_at _ _ _ | (simp [jv_up, *]; done)) (by rfl) dX8_append_2 ?_
  refine J_alen C (by first | assumption | exact jv_up_at _ _ _ | (simp [jv_up, *]; done)) (by decide) dX8_append_5 ?_
  first | refine J_aload_n C rfl dX8_append_6 ?_ | refine J_aload_nq C rfl dX8_append_6 ?_ | refine J_aload_nN C rfl dX8_append_6 ?_
  refine J_get C fl_X8_15 (by first | assumption | exact jv_up_at _ _ _ | (simp [jv_up, *]; done)) (by rfl) dX8_append_7 ?_
  first | refine J_nisub C (by omega) dX8_append_10 ?_ | refine J_isub C dX8_append_10 ?_
  refine J_nicmp_le C (by first | omega | (dsimp only; omega)) (by first | omega | (dsimp only; omega)) 16 (by decide) dX8_append_11 (fun z1 => ?_) (fun z1 => ?_)
  · have loop : ∀ m i : Nat, i + m = k → J K 0 0 19 (jv_l [(0, .ref t), (1, .int (nI k)), (2, .long v), (4, .int (nI i))]) [] (jv_up h tb (.inl (1, 400, .inl (sp_app f n v i)))) := by
      intro m
      induction m with
      | zero =>
        intro i hi
        have T1' := jv_up_of (x := .inl (1, 400, .inl (sp_app f n v i))) hne T1
        refine J_iload C rfl dX8_append_19 ?_
        refine J_iload_n C rfl dX8_append_21 ?_
        refine J_nicmp_ge C (by first | omega | (dsimp only; omega)) (by first | omega | (dsimp only; omega)) 52 (by decide) dX8_append_22 (fun z2 => ?_) (fun z2 => ?_)
        · first | refine J_aload_n C rfl dX8_append_52 ?_ | refine J_aload_nq C rfl dX8_append_52 ?_ | refine J_aload_nN C rfl dX8_append_52 ?_
          refine J_dup C rfl dX8_append_53 ?_
          refine J_get C fl_X8_15 (by first | assumption | exact jv_up_at _ _ _ | (simp [jv_up, *]; done)) (by rfl) dX8_append_54 ?_
          refine J_iload_n C rfl dX8_append_57 ?_
          first | refine J_niadd C dX8_append_58 ?_ | refine J_iadd C dX8_append_58 ?_
          refine J_put C fl_X8_15 (by first | assumption | exact jv_up_at _ _ _ | (simp [jv_up, *]; done)) (by exact Nat.le_of_ble_eq_true rfl) (by rfl) (by rfl) dX8_append_59 ?_
          refine J_iconst C (v := nI 1) (by decide) dX8_append_62 ?_
          refine J_zret C D (Or.inr rfl) (Or.inr ⟨by omega, rfl, by rw [show i = k by omega]; rfl⟩) (by omega) (by omega) dX8_append_63
        · omega
      | succ m ih =>
        intro i hi
        have T1' := jv_up_of (x := .inl (1, 400, .inl (sp_app f n v i))) hne T1
        refine J_iload C rfl dX8_append_19 ?_
        refine J_iload_n C rfl dX8_append_21 ?_
        refine J_nicmp_ge C (by first | omega | (dsimp only; omega)) (by first | omega | (dsimp only; omega)) 52 (by decide) dX8_append_22 (fun z2 => ?_) (fun z2 => ?_)
        · omega
        · first | refine J_aload_n C rfl dX8_append_25 ?_ | refine J_aload_nq C rfl dX8_append_25 ?_ | refine J_aload_nN C rfl dX8_append_25 ?_
          refine J_get C fl_X8_9 (by first | assumption | exact jv_up_at _ _ _ | (simp [jv_up, *]; done)) (by rfl) dX8_append_26 ?_
          first | refine J_aload_n C rfl dX8_append_29 ?_ | refine J_aload_nq C rfl dX8_append_29 ?_ | refine J_aload_nN C rfl dX8_append_29 ?_
          refine J_get C fl_X8_15 (by first | assumption | exact jv_up_at _ _ _ | (simp [jv_up, *]; done)) (by rfl) dX8_append_30 ?_
          refine J_iload C rfl dX8_append_33 ?_
          first | refine J_niadd C dX8_append_35 ?_ | refine J_iadd C dX8_append_35 ?_
          refine J_lload_n C rfl dX8_append_36 ?_
          refine J_bipush C (v := nI 8) (by decide) dX8_append_37 ?_
          refine J_iload C rfl dX8_append_39 ?_
          first | refine J_nimul C dX8_append_41 ?_ | refine J_imul C dX8_append_41 ?_
          refine J_lshr C dX8_append_42 ?_
          refine J_l2i C dX8_append_43 ?_
          refine J_i2b C dX8_append_44 ?_
          refine J_bast C (by first | assumption | exact jv_up_at _ _ _ | (simp [jv_up, *]; done)) (j := n + i) rfl (by omega) (by decide) dX8_append_45 ?_
          first | refine J_niinc (b := 1) C rfl (by decide) dX8_append_46 ?_ | refine J_iinc C rfl (by decide) dX8_append_46 ?_
          refine J_goto C 19 (by decide) dX8_append_49 ?_
          rw [jv_up_up]
          refine J_sub (by exact (And.intro rfl (And.intro rfl (And.intro rfl (And.intro rfl trivial))))) (ih (i + 1) (by omega))
    refine J_iconst C (v := nI 0) (by decide) dX8_append_16 ?_
    refine J_istore C (by decide) dX8_append_17 ?_
    have e0 : h = jv_up h tb (.inl (1, 400, .inl (sp_app f n v 0))) := (jv_up_id T2).symm
    rw [e0]
    refine J_sub (by exact (And.intro rfl (And.intro rfl (And.intro rfl (And.intro rfl trivial))))) (loop k 0 (by omega))
  · refine J_iconst C (v := nI 0) (by decide) dX8_append_14 ?_
    refine J_zret C D (Or.inl rfl) (Or.inl ⟨by omega, rfl, rfl⟩) (by omega) (by omega) dX8_append_15
set_option maxHeartbeats 4000000 in
theorem c_Tape_byteAt (l : jL) (h : jH) (t tb n : Nat) (f : Nat → Int32) (T : tp_is h t tb n f) (i : Nat) (hi : i < n) : Cn l yX8_byteAt cX8_byteAt 2 (some .int) 1 0 0 [.ref t, .int (nI i)] h (fun r h1 => r = some (.int (nI (sp_B f i))) ∧ h1 = h) := by
  obtain ⟨T1, T2, T3⟩ := T
  refine Cn.of (own := RX8) rfl (by decide) (by exact Nat.le_of_ble_eq_true rfl) (by decide) (fun K hK C D I => ?_)
  refine J_iload_n C rfl dX8_byteAt_0 ?_
  refine J_nif_lt C (by omega) 25 dX8_byteAt_1 (by decide) ?_
  refine J_iload_n C rfl dX8_byteAt_4 ?_
  first | refine J_aload_n C rfl dX8_byteAt_5 ?_ | refine J_aload_nq C rfl dX8_byteAt_5 ?_ | refine J_aload_nN C rfl dX8_byteAt_5 ?_
  refine J_get C fl_X8_15 (by first | assumption | exact jv_up_at _ _ _ | (simp [jv_up, *]; done)) (by rfl) dX8_byteAt_6 ?_
  refine J_nicmp_ge C (by first | omega | (dsimp only; omega)) (by first | omega | (dsimp only; omega)) 25 (by decide) dX8_byteAt_9 (fun z1 => ?_) (fun z1 => ?_)
  · omega
  · first | refine J_aload_n C rfl dX8_byteAt_12 ?_ | refine J_aload_nq C rfl dX8_byteAt_12 ?_ | refine J_aload_nN C rfl dX8_byteAt_12 ?_
    refine J_get C fl_X8_9 (by first | assumption | exact jv_up_at _ _ _ | (simp [jv_up, *]; done)) (by rfl) dX8_byteAt_13 ?_
    refine J_iload_n C rfl dX8_byteAt_16 ?_
    refine J_bald C (by first | assumption | exact jv_up_at _ _ _ | (simp [jv_up, *]; done)) rfl (by omega) (by decide) dX8_byteAt_17 ?_
    refine J_sipush C (v := nI 255) (by decide) dX8_byteAt_18 ?_
    refine J_iand C dX8_byteAt_21 ?_
    refine J_goto C 26 (by decide) dX8_byteAt_22 ?_
    rw [sp_B_and]
    refine J_iret C D ⟨rfl, rfl⟩ (by omega) (by omega) dX8_byteAt_26
def sp_wsf (B : Nat → Nat) : Nat → Nat → Nat
  | 0, i => i
  | k + 1, i => if sp_isl (B i) then i else sp_wsf B k (i + 1)
def sp_ws (B : Nat → Nat) (n i : Nat) : Nat := sp_wsf B (n - i) i
def sp_wef (B : Nat → Nat) : Nat → Nat → Nat
  | 0, i => i
  | k + 1, i => if sp_isl (B i) then sp_wef B k (i + 1) else i
def sp_we (B : Nat → Nat) (n i : Nat) : Nat := sp_wef B (n - i) i
set_option maxHeartbeats 4000000 in
theorem c_Tape_wordStart (l : jL) (h : jH) (t tb n : Nat) (f : Nat → Int32) (T : tp_is h t tb n f) (i : Nat) (hi : i ≤ n) : Cn l yX8_wordStart cX8_wordStart 3 (some .int) 3 0 0 [.ref t, .int (nI i)] h (fun r h1 => r = some (.int (nI (sp_ws (sp_B f) n i))) ∧ h1 = h) := by
  have T0 := T
  obtain ⟨T1, T2, T3⟩ := T
  refine Cn.of (own := RX8) rfl (by decide) (by exact Nat.le_of_ble_eq_true rfl) (by decide) (fun K hK C D I => ?_)
  have loop : ∀ m j : Nat, j + m = n → sp_wsf (sp_B f) m j = sp_ws (sp_B f) n i → J K 0 0 2 (jv_l [(0, .ref t), (2, .int (nI j))]) [] h := by
    intro m
    induction m with
    | zero =>
      intro j hj he
      refine J_iload_n C rfl dX8_wordStart_2 ?_
      first | refine J_aload_n C rfl dX8_wordStart_3 ?_ | refine J_aload_nq C rfl dX8_wordStart_3 ?_ | refine J_aload_nN C rfl dX8_wordStart_3 ?_
      refine J_get C fl_X8_15 (by first | assumption | exact jv_up_at _ _ _ | (simp [jv_up, *]; done)) (by rfl) dX8_wordStart_4 ?_
      refine J_nicmp_ge C (by first | omega | (dsimp only; omega)) (by first | omega | (dsimp only; omega)) 29 (by decide) dX8_wordStart_7 (fun z1 => ?_) (fun z1 => ?_)
      · first | refine J_aload_n C rfl dX8_wordStart_29 ?_ | refine J_aload_nq C rfl dX8_wordStart_29 ?_ | refine J_aload_nN C rfl dX8_wordStart_29 ?_
        refine J_get C fl_X8_15 (by first | assumption | exact jv_up_at _ _ _ | (simp [jv_up, *]; done)) (by rfl) dX8_wordStart_30 ?_
        refine J_iret C D ⟨by rw [← he, ← (show j = n by omega)]; rfl, rfl⟩ (by omega) (by omega) dX8_wordStart_33
      · omega
    | succ m ih =>
      intro j hj he
      unfold sp_wsf at he
      refine J_iload_n C rfl dX8_wordStart_2 ?_
      first | refine J_aload_n C rfl dX8_wordStart_3 ?_ | refine J_aload_nq C rfl dX8_wordStart_3 ?_ | refine J_aload_nN C rfl dX8_wordStart_3 ?_
      refine J_get C fl_X8_15 (by first | assumption | exact jv_up_at _ _ _ | (simp [jv_up, *]; done)) (by rfl) dX8_wordStart_4 ?_
      refine J_nicmp_ge C (by first | omega | (dsimp only; omega)) (by first | omega | (dsimp only; omega)) 29 (by decide) dX8_wordStart_7 (fun z1 => ?_) (fun z1 => ?_)
      · omega
      · first | refine J_aload_n C rfl dX8_wordStart_10 ?_ | refine J_aload_nq C rfl dX8_wordStart_10 ?_ | refine J_aload_nN C rfl dX8_wordStart_10 ?_
        refine J_iload_n C rfl dX8_wordStart_11 ?_
        refine J_callV C (c_Tape_byteAt _ h t tb n f T0 j (by omega)) cw_X8_19 (by first | assumption | exact jv_up_at _ _ _ | (simp [jv_up, *]; done)) rfl rfl rfl rfl (by exact Nat.le_of_ble_eq_true rfl) (by decide) (by omega) (by omega) dX8_wordStart_12 ?_
        rintro _ _ ⟨rfl, rfl⟩
        refine J_callS C (c_isLetter _ _ (sp_B f j) (by have := sp_B_lt f j; omega)) cw_X8_23 rfl rfl (by exact Nat.le_of_ble_eq_true rfl) (by decide) (by omega) (by omega) dX8_wordStart_15 ?_
        rintro _ _ ⟨rfl, rfl⟩
        refine J_bif_eq C 23 (by decide) dX8_wordStart_18 (fun z2 => ?_) (fun z2 => ?_)
        · rw [z2] at he
          first | refine J_niinc (b := 1) C rfl (by decide) dX8_wordStart_23 ?_ | refine J_iinc C rfl (by decide) dX8_wordStart_23 ?_
          refine J_goto C 2 (by decide) dX8_wordStart_26 ?_
          refine J_sub (by exact (And.intro rfl (And.intro rfl trivial))) (ih (j + 1) (by omega) he)
        · rw [z2] at he
          refine J_iload_n C rfl dX8_wordStart_21 ?_
          refine J_iret C D ⟨by rw [← he]; rfl, rfl⟩ (by omega) (by omega) dX8_wordStart_22
  refine J_iload_n C rfl dX8_wordStart_0 ?_
  refine J_istore_n C (by decide) dX8_wordStart_1 ?_
  refine J_sub (by exact (And.intro rfl (And.intro rfl trivial))) (loop (n - i) i (by omega) rfl)
set_option maxHeartbeats 4000000 in
theorem c_Tape_wordEnd (l : jL) (h : jH) (t tb n : Nat) (f : Nat → Int32) (T : tp_is h t tb n f) (i : Nat) (hi : i ≤ n) : Cn l yX8_wordEnd cX8_wordEnd 3 (some .int) 3 0 0 [.ref t, .int (nI i)] h (fun r h1 => r = some (.int (nI (sp_we (sp_B f) n i))) ∧ h1 = h) := by
  have T0 := T
  obtain ⟨T1, T2, T3⟩ := T
  refine Cn.of (own := RX8) rfl (by decide) (by exact Nat.le_of_ble_eq_true rfl) (by decide) (fun K hK C D I => ?_)
  have loop : ∀ m j : Nat, j + m = n → sp_wef (sp_B f) m j = sp_we (sp_B f) n i → J K 0 0 2 (jv_l [(0, .ref t), (2, .int (nI j))]) [] h := by
    intro m
    induction m with
    | zero =>
      intro j hj he
      refine J_iload_n C rfl dX8_wordEnd_2 ?_
      first | refine J_aload_n C rfl dX8_wordEnd_3 ?_ | refine J_aload_nq C rfl dX8_wordEnd_3 ?_ | refine J_aload_nN C rfl dX8_wordEnd_3 ?_
      refine J_get C fl_X8_15 (by first | assumption | exact jv_up_at _ _ _ | (simp [jv_up, *]; done)) (by rfl) dX8_wordEnd_4 ?_
      refine J_nicmp_ge C (by first | omega | (dsimp only; omega)) (by first | omega | (dsimp only; omega)) 29 (by decide) dX8_wordEnd_7 (fun z1 => ?_) (fun z1 => ?_)
      · first | refine J_aload_n C rfl dX8_wordEnd_29 ?_ | refine J_aload_nq C rfl dX8_wordEnd_29 ?_ | refine J_aload_nN C rfl dX8_wordEnd_29 ?_
        refine J_get C fl_X8_15 (by first | assumption | exact jv_up_at _ _ _ | (simp [jv_up, *]; done)) (by rfl) dX8_wordEnd_30 ?_
        refine J_iret C D ⟨by rw [← he, ← (show j = n by omega)]; rfl, rfl⟩ (by omega) (by omega) dX8_wordEnd_33
      · omega
    | succ m ih =>
      intro j hj he
      unfold sp_wef at he
      refine J_iload_n C rfl dX8_wordEnd_2 ?_
      first | refine J_aload_n C rfl dX8_wordEnd_3 ?_ | refine J_aload_nq C rfl dX8_wordEnd_3 ?_ | refine J_aload_nN C rfl dX8_wordEnd_3 ?_
      refine J_get C fl_X8_15 (by first | assumption | exact jv_up_at _ _ _ | (simp [jv_up, *]; done)) (by rfl) dX8_wordEnd_4 ?_
      refine J_nicmp_ge C (by first | omega | (dsimp only; omega)) (by first | omega | (dsimp only; omega)) 29 (by decide) dX8_wordEnd_7 (fun z1 => ?_) (fun z1 => ?_)
      · omega
      · first | refine J_aload_n C rfl dX8_wordEnd_10 ?_ | refine J_aload_nq C rfl dX8_wordEnd_10 ?_ | refine J_aload_nN C rfl dX8_wordEnd_10 ?_
        refine J_iload_n C rfl dX8_wordEnd_11 ?_
        refine J_callV C (c_Tape_byteAt _ h t tb n f T0 j (by omega)) cw_X8_19 (by first | assumption | exact jv_up_at _ _ _ | (simp [jv_up, *]; done)) rfl rfl rfl rfl (by exact Nat.le_of_ble_eq_true rfl) (by decide) (by omega) (by omega) dX8_wordEnd_12 ?_
        rintro _ _ ⟨rfl, rfl⟩
        refine J_callS C (c_isLetter _ _ (sp_B f j) (by have := sp_B_lt f j; omega)) cw_X8_23 rfl rfl (by exact Nat.le_of_ble_eq_true rfl) (by decide) (by omega) (by omega) dX8_wordEnd_15 ?_
        rintro _ _ ⟨rfl, rfl⟩
        refine J_bif_ne C 23 (by decide) dX8_wordEnd_18 (fun z2 => ?_) (fun z2 => ?_)
        · rw [z2] at he
          first | refine J_niinc (b := 1) C rfl (by decide) dX8_wordEnd_23 ?_ | refine J_iinc C rfl (by decide) dX8_wordEnd_23 ?_
          refine J_goto C 2 (by decide) dX8_wordEnd_26 ?_
          refine J_sub (by exact (And.intro rfl (And.intro rfl trivial))) (ih (j + 1) (by omega) he)
        · rw [z2] at he
          refine J_iload_n C rfl dX8_wordEnd_21 ?_
          refine J_iret C D ⟨by rw [← he]; rfl, rfl⟩ (by omega) (by omega) dX8_wordEnd_22
  refine J_iload_n C rfl dX8_wordEnd_0 ?_
  refine J_istore_n C (by decide) dX8_wordEnd_1 ?_
  refine J_sub (by exact (And.intro rfl (And.intro rfl trivial))) (loop (n - i) i (by omega) rfl)
/-- the first k letters from s on -/
def sp_lo (B : Nat → Nat) (s : Nat) : Nat → Int64
  | 0 => lN 0
  | i + 1 => sp_with (sp_lo B s i) i (sp_let (B (s + i)))
def sp_word (B : Nat → Nat) (s e : Nat) : Int64 := sp_lo B s (min 12 (e - s))
set_option maxHeartbeats 4000000 in
theorem c_Tape_lettersOf (l : jL) (h : jH) (t tb n : Nat) (f : Nat → Int32) (T : tp_is h t tb n f) (s e : Nat) (hs : s ≤ e) (he : e ≤ n) : Cn l yX8_lettersOf cX8_lettersOf 6 (some .long) 3 0 0 [.ref t, .int (nI s), .int (nI e)] h (fun r h1 => r = some (.long (sp_word (sp_B f) s e)) ∧ h1 = h) := by
  have T0 := T
  obtain ⟨T1, T2, T3⟩ := T
  refine Cn.of (own := RX8) rfl (by decide) (by exact Nat.le_of_ble_eq_true rfl) (by decide) (fun K hK C D I => ?_)
  have loop : ∀ m i : Nat, i + m = min 12 (e - s) → J K 0 0 5 (jv_l [(0, .ref t), (1, .int (nI s)), (2, .int (nI e)), (3, .long (sp_lo (sp_B f) s i)), (5, .int (nI i))]) [] h := by
    intro m
    induction m with
    | zero =>
      intro i hi
      refine J_iload C rfl dX8_lettersOf_5 ?_
      refine J_bipush C (v := nI 12) (by decide) dX8_lettersOf_7 ?_
      refine J_nicmp_ge C (by first | omega | (dsimp only; omega)) (by first | omega | (dsimp only; omega)) 44 (by decide) dX8_lettersOf_9 (fun z1 => ?_) (fun z1 => ?_)
      · refine J_lload_n C rfl dX8_lettersOf_44 ?_
        refine J_lret C D ⟨by rw [show i = min 12 (e - s) by omega]; rfl, rfl⟩ (by omega) (by omega) dX8_lettersOf_45
      · refine J_iload_n C rfl dX8_lettersOf_12 ?_
        refine J_iload C rfl dX8_lettersOf_13 ?_
        first | refine J_niadd C dX8_lettersOf_15 ?_ | refine J_iadd C dX8_lettersOf_15 ?_
        refine J_iload_n C rfl dX8_lettersOf_16 ?_
        refine J_nicmp_ge C (by first | omega | (dsimp only; omega)) (by first | omega | (dsimp only; omega)) 44 (by decide) dX8_lettersOf_17 (fun z2 => ?_) (fun z2 => ?_)
        · refine J_lload_n C rfl dX8_lettersOf_44 ?_
          refine J_lret C D ⟨by rw [show i = min 12 (e - s) by omega]; rfl, rfl⟩ (by omega) (by omega) dX8_lettersOf_45
        · omega
    | succ m ih =>
      intro i hi
      refine J_iload C rfl dX8_lettersOf_5 ?_
      refine J_bipush C (v := nI 12) (by decide) dX8_lettersOf_7 ?_
      refine J_nicmp_ge C (by first | omega | (dsimp only; omega)) (by first | omega | (dsimp only; omega)) 44 (by decide) dX8_lettersOf_9 (fun z1 => ?_) (fun z1 => ?_)
      · omega
      · refine J_iload_n C rfl dX8_lettersOf_12 ?_
        refine J_iload C rfl dX8_lettersOf_13 ?_
        first | refine J_niadd C dX8_lettersOf_15 ?_ | refine J_iadd C dX8_lettersOf_15 ?_
        refine J_iload_n C rfl dX8_lettersOf_16 ?_
        refine J_nicmp_ge C (by first | omega | (dsimp only; omega)) (by first | omega | (dsimp only; omega)) 44 (by decide) dX8_lettersOf_17 (fun z2 => ?_) (fun z2 => ?_)
        · omega
        · refine J_lload_n C rfl dX8_lettersOf_20 ?_
          refine J_iload C rfl dX8_lettersOf_21 ?_
          first | refine J_aload_n C rfl dX8_lettersOf_23 ?_ | refine J_aload_nq C rfl dX8_lettersOf_23 ?_ | refine J_aload_nN C rfl dX8_lettersOf_23 ?_
          refine J_iload_n C rfl dX8_lettersOf_24 ?_
          refine J_iload C rfl dX8_lettersOf_25 ?_
          first | refine J_niadd C dX8_lettersOf_27 ?_ | refine J_iadd C dX8_lettersOf_27 ?_
          refine J_callV C (c_Tape_byteAt _ h t tb n f T0 (s + i) (by omega)) cw_X8_19 (by first | assumption | exact jv_up_at _ _ _ | (simp [jv_up, *]; done)) rfl rfl rfl rfl (by exact Nat.le_of_ble_eq_true rfl) (by decide) (by omega) (by omega) dX8_lettersOf_28 ?_
          rintro _ _ ⟨rfl, rfl⟩
          refine J_callS C (c_letterOf _ _ (sp_B f (s + i)) (by have := sp_B_lt f (s + i); omega)) cw_X8_29 rfl rfl (by exact Nat.le_of_ble_eq_true rfl) (by decide) (by omega) (by omega) dX8_lettersOf_31 ?_
          rintro _ _ ⟨rfl, rfl⟩
          refine J_callS C (c_with _ _ (sp_lo (sp_B f) s i) i (sp_let (sp_B f (s + i))) (by omega) (by have := sp_let_lt (sp_B f (s + i)); omega)) cw_X8_32 rfl rfl (by exact Nat.le_of_ble_eq_true rfl) (by decide) (by omega) (by omega) dX8_lettersOf_34 ?_
          rintro _ _ ⟨rfl, rfl⟩
          refine J_lstore_n C (by decide) dX8_lettersOf_37 ?_
          first | refine J_niinc (b := 1) C rfl (by decide) dX8_lettersOf_38 ?_ | refine J_iinc C rfl (by decide) dX8_lettersOf_38 ?_
          refine J_goto C 5 (by decide) dX8_lettersOf_41 ?_
          refine J_sub (by exact (And.intro rfl (And.intro rfl (And.intro rfl (And.intro rfl (And.intro rfl trivial)))))) (ih (i + 1) (by omega))
  refine J_lconst C (v := lN 0) (by decide) dX8_lettersOf_0 ?_
  refine J_lstore_n C (by decide) dX8_lettersOf_1 ?_
  refine J_iconst C (v := nI 0) (by decide) dX8_lettersOf_2 ?_
  refine J_istore C (by decide) dX8_lettersOf_3 ?_
  refine J_sub (by exact (And.intro rfl (And.intro rfl (And.intro rfl (And.intro rfl (And.intro rfl trivial)))))) (loop (min 12 (e - s)) 0 (by omega))
end
section
/-! Term: needed, unwanted, open, letters, how many, weight -/
abbrev tmT : Type := Bool × Bool × Bool × Int64 × Nat × Nat
abbrev tm (v : tmT) : jE := .inr (8, [.int (jv_b v.1), .int (jv_b v.2.1), .int (jv_b v.2.2.1), .long v.2.2.2.1, .int (nI v.2.2.2.2.1), .int (nI v.2.2.2.2.2)])
abbrev tm0 : tmT := (false, false, false, lN 0, 0, 1)
set_option maxHeartbeats 4000000 in
theorem c_Term_init (l : jL) (h : jH) (a : Nat) : Cn l yX9_init cX9_init 1 none 1 0 0 [.ref a] h (fun r h1 => r = none ∧ h1 = h) := by
  refine Cn.of (own := RX9) rfl (by decide) (by exact Nat.le_of_ble_eq_true rfl) (by decide) (fun K hK C D I => ?_)
  first | refine J_aload_n C rfl dX9_init_0 ?_ | refine J_aload_nq C rfl dX9_init_0 ?_ | refine J_aload_nN C rfl dX9_init_0 ?_
  refine J_objInit C ml_X9_3 oi_inst oi_code (by decide) (by exact Nat.le_of_ble_eq_true rfl) dX9_init_1 ?_
  refine J_vret C D ⟨rfl, rfl⟩ (by omega) (by omega) dX9_init_4
set_option maxHeartbeats 4000000 in
theorem c_Term_begin (l : jL) (h : jH) (a : Nat) (v : tmT) (T1 : h a = some (tm v)) : Cn l yX9_begin cX9_begin 1 none 1 0 0 [.ref a] h (fun r h1 => r = none ∧ h1 = jv_up h a (tm tm0)) := by
  refine Cn.of (own := RX9) rfl (by decide) (by exact Nat.le_of_ble_eq_true rfl) (by decide) (fun K hK C D I => ?_)
  first | refine J_aload_n C rfl dX9_begin_0 ?_ | refine J_aload_nq C rfl dX9_begin_0 ?_ | refine J_aload_nN C rfl dX9_begin_0 ?_
  refine J_iconst C (v := nI 0) (by decide) dX9_begin_1 ?_
  refine J_put C fl_X9_9 (by first | assumption | exact jv_up_at _ _ _ | (simp [jv_up, *]; done)) (by exact Nat.le_of_ble_eq_true rfl) (by rfl) (by rfl) dX9_begin_2 ?_
  first | refine J_aload_n C rfl dX9_begin_5 ?_ | refine J_aload_nq C rfl dX9_begin_5 ?_ | refine J_aload_nN C rfl dX9_begin_5 ?_
  refine J_iconst C (v := nI 0) (by decide) dX9_begin_6 ?_
  refine J_put C fl_X9_15 (by first | assumption | exact jv_up_at _ _ _ | (simp [jv_up, *]; done)) (by exact Nat.le_of_ble_eq_true rfl) (by rfl) (by rfl) dX9_begin_7 ?_
  first | refine J_aload_n C rfl dX9_begin_10 ?_ | refine J_aload_nq C rfl dX9_begin_10 ?_ | refine J_aload_nN C rfl dX9_begin_10 ?_
  refine J_iconst C (v := nI 0) (by decide) dX9_begin_11 ?_
  refine J_put C fl_X9_18 (by first | assumption | exact jv_up_at _ _ _ | (simp [jv_up, *]; done)) (by exact Nat.le_of_ble_eq_true rfl) (by rfl) (by rfl) dX9_begin_12 ?_
  first | refine J_aload_n C rfl dX9_begin_15 ?_ | refine J_aload_nq C rfl dX9_begin_15 ?_ | refine J_aload_nN C rfl dX9_begin_15 ?_
  refine J_lconst C (v := lN 0) (by decide) dX9_begin_16 ?_
  refine J_put C fl_X9_21 (by first | assumption | exact jv_up_at _ _ _ | (simp [jv_up, *]; done)) (by exact Nat.le_of_ble_eq_true rfl) (by rfl) (by rfl) dX9_begin_17 ?_
  first | refine J_aload_n C rfl dX9_begin_20 ?_ | refine J_aload_nq C rfl dX9_begin_20 ?_ | refine J_aload_nN C rfl dX9_begin_20 ?_
  refine J_iconst C (v := nI 0) (by decide) dX9_begin_21 ?_
  refine J_put C fl_X9_25 (by first | assumption | exact jv_up_at _ _ _ | (simp [jv_up, *]; done)) (by exact Nat.le_of_ble_eq_true rfl) (by rfl) (by rfl) dX9_begin_22 ?_
  first | refine J_aload_n C rfl dX9_begin_25 ?_ | refine J_aload_nq C rfl dX9_begin_25 ?_ | refine J_aload_nN C rfl dX9_begin_25 ?_
  refine J_iconst C (v := nI 1) (by decide) dX9_begin_26 ?_
  refine J_put C fl_X9_29 (by first | assumption | exact jv_up_at _ _ _ | (simp [jv_up, *]; done)) (by exact Nat.le_of_ble_eq_true rfl) (by rfl) (by rfl) dX9_begin_27 ?_
  refine J_vret C D ⟨rfl, by simp only [jv_up_up]; rfl⟩ (by omega) (by omega) dX9_begin_30
set_option maxHeartbeats 4000000 in
theorem c_Term_append (l : jL) (h : jH) (a : Nat) (nd uw op : Bool) (L : Int64) (n wt : Nat) (hn : n ≤ 12) (T1 : h a = some (tm (nd, uw, op, L, n, wt))) (c : Nat) (hc : c < 32) : Cn l yX9_append cX9_append 2 (some .boolean) 2 0 0 [.ref a, .int (nI c)] h (fun r h1 => (12 ≤ n ∧ r = some (.int (jv_b false)) ∧ h1 = h) ∨ (n < 12 ∧ r = some (.int (jv_b true)) ∧ h1 = jv_up h a (tm (nd, uw, op, sp_with L n c, n + 1, wt)))) := by
  refine Cn.of (own := RX9) rfl (by decide) (by exact Nat.le_of_ble_eq_true rfl) (by decide) (fun K hK C D I => ?_)
  first | refine J_aload_n C rfl dX9_append_0 ?_ | refine J_aload_nq C rfl dX9_append_0 ?_ | refine J_aload_nN C rfl dX9_append_0 ?_
  refine J_get C fl_X9_25 (by first | assumption | exact jv_up_at _ _ _ | (simp [jv_up, *]; done)) (by rfl) dX9_append_1 ?_
  refine J_bipush C (v := nI 12) (by decide) dX9_append_4 ?_
  refine J_nicmp_lt C (by first | omega | (dsimp only; omega)) (by first | omega | (dsimp only; omega)) 11 (by decide) dX9_append_6 (fun z1 => ?_) (fun z1 => ?_)
  · first | refine J_aload_n C rfl dX9_append_11 ?_ | refine J_aload_nq C rfl dX9_append_11 ?_ | refine J_aload_nN C rfl dX9_append_11 ?_
    first | refine J_aload_n C rfl dX9_append_12 ?_ | refine J_aload_nq C rfl dX9_append_12 ?_ | refine J_aload_nN C rfl dX9_append_12 ?_
    refine J_get C fl_X9_21 (by first | assumption | exact jv_up_at _ _ _ | (simp [jv_up, *]; done)) (by rfl) dX9_append_13 ?_
    first | refine J_aload_n C rfl dX9_append_16 ?_ | refine J_aload_nq C rfl dX9_append_16 ?_ | refine J_aload_nN C rfl dX9_append_16 ?_
    refine J_get C fl_X9_25 (by first | assumption | exact jv_up_at _ _ _ | (simp [jv_up, *]; done)) (by rfl) dX9_append_17 ?_
    refine J_iload_n C rfl dX9_append_20 ?_
    refine J_callS C (c_with _ _ L n c z1 hc) cw_X9_32 rfl rfl (by exact Nat.le_of_ble_eq_true rfl) (by decide) (by omega) (by omega) dX9_append_21 ?_
    rintro _ _ ⟨rfl, rfl⟩
    refine J_put C fl_X9_21 (by first | assumption | exact jv_up_at _ _ _ | (simp [jv_up, *]; done)) (by exact Nat.le_of_ble_eq_true rfl) (by rfl) (by rfl) dX9_append_24 ?_
    first | refine J_aload_n C rfl dX9_append_27 ?_ | refine J_aload_nq C rfl dX9_append_27 ?_ | refine J_aload_nN C rfl dX9_append_27 ?_
    refine J_dup C rfl dX9_append_28 ?_
    refine J_get C fl_X9_25 (by first | assumption | exact jv_up_at _ _ _ | (simp [jv_up, *]; done)) (by rfl) dX9_append_29 ?_
    refine J_iconst C (v := nI 1) (by decide) dX9_append_32 ?_
    first | refine J_niadd C dX9_append_33 ?_ | refine J_iadd C dX9_append_33 ?_
    refine J_put C fl_X9_25 (by first | assumption | exact jv_up_at _ _ _ | (simp [jv_up, *]; done)) (by exact Nat.le_of_ble_eq_true rfl) (by rfl) (by rfl) dX9_append_34 ?_
    refine J_iconst C (v := nI 1) (by decide) dX9_append_37 ?_
    refine J_zret C D (Or.inr rfl) (Or.inr ⟨z1, rfl, by simp only [jv_up_up]; rfl⟩) (by omega) (by omega) dX9_append_38
  · refine J_iconst C (v := nI 0) (by decide) dX9_append_9 ?_
    refine J_zret C D (Or.inl rfl) (Or.inl ⟨z1, rfl, rfl⟩) (by omega) (by omega) dX9_append_10
set_option maxHeartbeats 4000000 in
theorem c_Term_last (l : jL) (h : jH) (a : Nat) (v : tmT) (hn : v.2.2.2.2.1 ≤ 12) (T1 : h a = some (tm v)) : Cn l yX9_lastLetters cX9_lastLetters 1 (some .long) 2 0 0 [.ref a] h (fun r h1 => r = some (.long (if v.2.2.1 then sp_last v.2.2.2.1 v.2.2.2.2.1 else v.2.2.2.1)) ∧ h1 = h) := by
  refine Cn.of (own := RX9) rfl (by decide) (by exact Nat.le_of_ble_eq_true rfl) (by decide) (fun K hK C D I => ?_)
  first | refine J_aload_n C rfl dX9_lastLetters_0 ?_ | refine J_aload_nq C rfl dX9_lastLetters_0 ?_ | refine J_aload_nN C rfl dX9_lastLetters_0 ?_
  refine J_get C fl_X9_18 (by first | assumption | exact jv_up_at _ _ _ | (simp [jv_up, *]; done)) (by rfl) dX9_lastLetters_1 ?_
  refine J_bif_eq C 21 (by decide) dX9_lastLetters_4 (fun z1 => ?_) (fun z1 => ?_)
  · first | refine J_aload_n C rfl dX9_lastLetters_21 ?_ | refine J_aload_nq C rfl dX9_lastLetters_21 ?_ | refine J_aload_nN C rfl dX9_lastLetters_21 ?_
    refine J_get C fl_X9_21 (by first | assumption | exact jv_up_at _ _ _ | (simp [jv_up, *]; done)) (by rfl) dX9_lastLetters_22 ?_
    refine J_lret C D ⟨by rw [z1]; rfl, rfl⟩ (by omega) (by omega) dX9_lastLetters_25
  · first | refine J_aload_n C rfl dX9_lastLetters_7 ?_ | refine J_aload_nq C rfl dX9_lastLetters_7 ?_ | refine J_aload_nN C rfl dX9_lastLetters_7 ?_
    refine J_get C fl_X9_21 (by first | assumption | exact jv_up_at _ _ _ | (simp [jv_up, *]; done)) (by rfl) dX9_lastLetters_8 ?_
    first | refine J_aload_n C rfl dX9_lastLetters_11 ?_ | refine J_aload_nq C rfl dX9_lastLetters_11 ?_ | refine J_aload_nN C rfl dX9_lastLetters_11 ?_
    refine J_get C fl_X9_25 (by first | assumption | exact jv_up_at _ _ _ | (simp [jv_up, *]; done)) (by rfl) dX9_lastLetters_12 ?_
    refine J_callS C (c_lastWithBeginning _ _ v.2.2.2.1 v.2.2.2.2.1 hn) cw_X9_38 rfl rfl (by exact Nat.le_of_ble_eq_true rfl) (by decide) (by omega) (by omega) dX9_lastLetters_15 ?_
    rintro _ _ ⟨rfl, rfl⟩
    refine J_goto C 25 (by decide) dX9_lastLetters_18 ?_
    refine J_lret C D ⟨by rw [z1]; rfl, rfl⟩ (by omega) (by omega) dX9_lastLetters_25
end
section
/-! Query: read byte by byte; the pure machine qs_ -/
def fr (S : Nat → Prop) (h h1 : jH) : Prop := ∀ x, ¬ S x → h1 x = h x
theorem fr_rf (S : Nat → Prop) (h : jH) : fr S h h := fun _ _ => rfl
theorem fr_tr {S : Nat → Prop} {h h1 h2 : jH} (a : fr S h h1) (b : fr S h1 h2) : fr S h h2 := fun x hx => (b x hx).trans (a x hx)
theorem fr_up {S : Nat → Prop} {h : jH} {a : Nat} {x : jE} (ha : S a) : fr S h (jv_up h a x) := fun y hy => jv_up_ne (fun z => hy (by rw [z]; exact ha))
theorem fr_mono {S S' : Nat → Prop} {h h1 : jH} (H : fr S h h1) (hs : ∀ x, S x → S' x) : fr S' h h1 := fun x hx => H x (fun z => hx (hs x z))
theorem jv_neO {h : jH} {a b ci cj : Nat} {fs gs : List Value} (ha : h a = some (.inr (ci, fs))) (hb : h b = some (.inr (cj, gs))) (hne : ci ≠ cj) : a ≠ b := by
  intro z
  subst z
  rw [ha] at hb
  injection hb with hb
  injection hb with hb
  injection hb with hb
  exact hne hb
theorem jv_neA {h : jH} {a b : Nat} {x : Nat × List Value} {y : Nat × vp_A} (ha : h a = some (.inr x)) (hb : h b = some (.inl y)) : a ≠ b := by
  intro z
  subst z
  rw [ha] at hb
  cases hb
abbrev qsT : Type := Nat × Nat × (Nat → tmT)
def tm_app (v : tmT) (b : Nat) : tmT := (v.1, v.2.1, v.2.2.1, sp_with v.2.2.2.1 v.2.2.2.2.1 (sp_let b), v.2.2.2.2.1 + 1, v.2.2.2.2.2)
def qs_blank (s : qsT) (b : Nat) : Nat × qsT := if 32 < b then (1, s) else (0, (s.1, 0, s.2.2))
def qs_let (s : qsT) (b : Nat) : Nat × qsT := if sp_isl b then (if 12 ≤ (s.2.2 (s.1 - 1)).2.2.2.2.1 then (2, s) else (0, (s.1, 2, va_up s.2.2 (s.1 - 1) (tm_app (s.2.2 (s.1 - 1)) b)))) else (1, s)
def qs_star (s : qsT) (b : Nat) : Nat × qsT := if b = 94 then (0, (s.1, 4, s.2.2)) else qs_blank s b
def tm_open (v : tmT) : tmT := (v.1, v.2.1, true, v.2.2.2)
def qs_behind (s : qsT) (b : Nat) : Nat × qsT := if sp_isl b then qs_let s b else if b = 42 then (0, (s.1, 3, va_up s.2.2 (s.1 - 1) (tm_open (s.2.2 (s.1 - 1))))) else qs_star s b
def tm_wt (v : tmT) (w : Nat) : tmT := (v.1, v.2.1, v.2.2.1, v.2.2.2.1, v.2.2.2.2.1, w)
def qs_fig (s : qsT) (b : Nat) : Nat × qsT := if b < 49 ∨ 57 < b then (1, s) else (0, (s.1, 5, va_up s.2.2 (s.1 - 1) (tm_wt (s.2.2 (s.1 - 1)) (b - 48))))
def tm_sgn (b : Nat) : tmT := (decide (b = 43), decide (b = 45), false, lN 0, 0, 1)
def qs_between (s : qsT) (b : Nat) : Nat × qsT :=
  if (b = 43 ∨ b = 45) ∨ sp_isl b then (if 16 ≤ s.1 then (3, s) else if b = 43 ∨ b = 45 then (0, (s.1 + 1, 1, va_up s.2.2 s.1 (tm_sgn b))) else qs_let (s.1 + 1, s.2.1, va_up s.2.2 s.1 tm0) b) else qs_blank s b
def qs_take (s : qsT) (b : Nat) : Nat × qsT :=
  if s.2.1 = 0 then qs_between s b else if s.2.1 = 1 then qs_let s b else if s.2.1 = 2 then qs_behind s b else if s.2.1 = 3 then qs_star s b else if s.2.1 = 4 then qs_fig s b else qs_blank s b
abbrev qyO (ta cnt cur st fk : Nat) (fp : Int32) : jE := .inr (5, [.ref ta, .int (nI cnt), .ref cur, .int (nI st), .int (nI fk), .int fp])
def qy (h : jH) (a ta : Nat) (tt : Nat → Nat) (cur fk : Nat) (fp : Int32) (s : qsT) : Prop :=
  h a = some (qyO ta s.1 cur s.2.1 fk fp) ∧ (∃ f, h ta = some (.inl (5, 16, .inr (.inr (.inr (.inr f))))) ∧ ∀ i, i < 16 → f i = some (tt i)) ∧
  (∀ i, i < 16 → h (tt i) = some (tm (s.2.2 i))) ∧ (∀ i j, i < 16 → j < 16 → tt i = tt j → i = j) ∧ s.1 ≤ 16 ∧ s.2.1 ≤ 5 ∧ (∀ i, i < 16 → (s.2.2 i).2.2.2.2.1 ≤ 12) ∧ fk ≤ 3
/-- the current term is the last -/
def qy_cur (tt : Nat → Nat) (cur : Nat) (s : qsT) : Prop := 1 ≤ s.1 ∧ cur = tt (s.1 - 1)
def qy_S (a : Nat) (tt : Nat → Nat) : Nat → Prop := fun x => x = a ∨ ∃ i, i < 16 ∧ x = tt i
theorem qy_a {h : jH} {a ta : Nat} {tt : Nat → Nat} {cur fk : Nat} {fp : Int32} {s : qsT} (Y : qy h a ta tt cur fk fp s) {cnt cur' st fk' : Nat} {fp' : Int32} (hc : cnt ≤ 16) (hst : st ≤ 5) (hfk : fk' ≤ 3) : qy (jv_up h a (qyO ta cnt cur' st fk' fp')) a ta tt cur' fk' fp' (cnt, st, s.2.2) := by
  obtain ⟨y1, ⟨f, y2, y3⟩, y4, y5, y6, y7, y8, y9⟩ := Y
  have n1 : ta ≠ a := fun z => by rw [z, y1] at y2; cases y2
  exact ⟨jv_up_at _ _ _, ⟨f, jv_up_of n1 y2, y3⟩, fun i hi => jv_up_of (jv_neO (y4 i hi) y1 (by decide)) (y4 i hi), y5, hc, hst, y8, hfk⟩
theorem qy_ne {h : jH} {a ta : Nat} {tt : Nat → Nat} {cur fk : Nat} {fp : Int32} {s : qsT} (Y : qy h a ta tt cur fk fp s) {i : Nat} (hi : i < 16) : tt i ≠ a ∧ tt i ≠ ta := by
  obtain ⟨y1, ⟨f, y2, y3⟩, y4, -⟩ := Y
  have h4 := y4 i hi
  exact ⟨jv_neO h4 y1 (by decide), jv_neA h4 y2⟩
theorem qy_t {h : jH} {a ta : Nat} {tt : Nat → Nat} {cur fk : Nat} {fp : Int32} {s : qsT} (Y : qy h a ta tt cur fk fp s) {k : Nat} (hk : k < 16) {v : tmT} (hv : v.2.2.2.2.1 ≤ 12) : qy (jv_up h (tt k) (tm v)) a ta tt cur fk fp (s.1, s.2.1, va_up s.2.2 k v) := by
  have n := qy_ne Y hk
  obtain ⟨y1, ⟨f, y2, y3⟩, y4, y5, y6, y7, y8, y9⟩ := Y
  refine ⟨jv_up_of n.1.symm y1, ⟨f, jv_up_of n.2.symm y2, y3⟩, fun i hi => ?_, y5, y6, y7, fun i hi => ?_, y9⟩
  · by_cases z : i = k
    · subst z
      rw [jv_up_at]
      show _ = some (tm (va_up s.2.2 i v i))
      rw [show va_up s.2.2 i v i = v from if_pos rfl]
    · rw [jv_up_ne (fun w => z (y5 i k hi hk w)), y4 i hi]
      show _ = some (tm (va_up s.2.2 k v i))
      rw [show va_up s.2.2 k v i = s.2.2 i from if_neg z]
  · by_cases z : i = k
    · subst z
      show (va_up s.2.2 i v i).2.2.2.2.1 ≤ 12
      rw [show va_up s.2.2 i v i = v from if_pos rfl]; exact hv
    · show (va_up s.2.2 k v i).2.2.2.2.1 ≤ 12
      rw [show va_up s.2.2 k v i = s.2.2 i from if_neg z]; exact y8 i hi
/-- what the taking methods answer and leave -/
def qy_post (h : jH) (a ta : Nat) (tt : Nat → Nat) (fk : Nat) (fp : Int32) (q : Nat × qsT) : Option Value → jH → Prop := fun r h1 =>
  r = some (.int (nI q.1)) ∧ q.1 ≤ 3 ∧ (∃ cur1, qy h1 a ta tt cur1 fk fp q.2 ∧ (q.1 = 0 → q.2.2.1 ≠ 0 → qy_cur tt cur1 q.2)) ∧ fr (qy_S a tt) h h1
section QY
variable {l : jL} {h : jH} {a ta : Nat} {tt : Nat → Nat} {cur fk : Nat} {fp : Int32} {s : qsT} {b : Nat}
set_option maxHeartbeats 400000 in
theorem c_Query_takeBlank (Y : qy h a ta tt cur fk fp s) (hb : b < 256) : Cn l yX6_takeBlank cX6_takeBlank 2 (some .int) 1 0 0 [.ref a, .int (nI b)] h (qy_post h a ta tt fk fp (qs_blank s b)) := by
  have Y0 := Y
  obtain ⟨y1, -⟩ := Y
  refine Cn.of (own := RX6) rfl (by decide) (by exact Nat.le_of_ble_eq_true rfl) (by decide) (fun K hK C D I => ?_)
  refine J_iload_n C rfl dX6_takeBlank_0 ?_
  refine J_bipush C (v := nI 32) (by decide) dX6_takeBlank_1 ?_
  refine J_nicmp_le C (by first | omega | (dsimp only; omega)) (by first | omega | (dsimp only; omega)) 8 (by decide) dX6_takeBlank_3 (fun z1 => ?_) (fun z1 => ?_)
  · first | refine J_aload_n C rfl dX6_takeBlank_8 ?_ | refine J_aload_nq C rfl dX6_takeBlank_8 ?_ | refine J_aload_nN C rfl dX6_takeBlank_8 ?_
    refine J_iconst C (v := nI 0) (by decide) dX6_takeBlank_9 ?_
    refine J_put C fl_X6_32 (by first | assumption | exact jv_up_at _ _ _ | (simp [jv_up, *]; done)) (by exact Nat.le_of_ble_eq_true rfl) (by rfl) (by rfl) dX6_takeBlank_10 ?_
    refine J_iconst C (v := nI 0) (by decide) dX6_takeBlank_13 ?_
    refine J_iret C D (by rw [show qs_blank s b = (0, (s.1, 0, s.2.2)) from if_neg (by omega)]; exact ⟨rfl, Nat.le_of_ble_eq_true rfl, ⟨cur, qy_a Y0 Y0.2.2.2.2.1 (by decide) Y0.2.2.2.2.2.2.2, fun _ z => absurd rfl z⟩, fr_up (Or.inl rfl)⟩) (by omega) (by omega) dX6_takeBlank_14
  · refine J_iconst C (v := nI 1) (by decide) dX6_takeBlank_6 ?_
    refine J_iret C D (by rw [show qs_blank s b = (1, s) from if_pos z1]; exact ⟨rfl, Nat.le_of_ble_eq_true rfl, ⟨cur, Y0, fun z => by cases z⟩, fr_rf _ _⟩) (by omega) (by omega) dX6_takeBlank_7
set_option maxHeartbeats 400000 in
theorem c_Query_takeLetter (Y : qy h a ta tt cur fk fp s) (U : qy_cur tt cur s) (hb : b < 256) : Cn l yX6_takeLetter cX6_takeLetter 2 (some .int) 3 0 0 [.ref a, .int (nI b)] h (qy_post h a ta tt fk fp (qs_let s b)) := by
  have Y0 := Y
  obtain ⟨y1, y2, y4, y5, y6, y7, y8, y9⟩ := Y
  obtain ⟨u1, u2⟩ := U
  have t1 : h cur = some (tm (s.2.2 (s.1 - 1))) := by rw [u2]; exact y4 _ (by omega)
  refine Cn.of (own := RX6) rfl (by decide) (by exact Nat.le_of_ble_eq_true rfl) (by decide) (fun K hK C D I => ?_)
  refine J_iload_n C rfl dX6_takeLetter_0 ?_
  refine J_callS C (c_isLetter _ _ b (by omega)) cw_X6_70 rfl rfl (by exact Nat.le_of_ble_eq_true rfl) (by decide) (by omega) (by omega) dX6_takeLetter_1 ?_
  rintro _ _ ⟨rfl, rfl⟩
  refine J_bif_ne C 9 (by decide) dX6_takeLetter_4 (fun z1 => ?_) (fun z1 => ?_)
  · first | refine J_aload_n C rfl dX6_takeLetter_9 ?_ | refine J_aload_nq C rfl dX6_takeLetter_9 ?_ | refine J_aload_nN C rfl dX6_takeLetter_9 ?_
    refine J_get C fl_X6_18 (by first | assumption | exact jv_up_at _ _ _ | (simp [jv_up, *]; done)) (by rfl) dX6_takeLetter_10 ?_
    refine J_iload_n C rfl dX6_takeLetter_13 ?_
    refine J_callS C (c_letterOf _ _ b (by omega)) cw_X6_86 rfl rfl (by exact Nat.le_of_ble_eq_true rfl) (by decide) (by omega) (by omega) dX6_takeLetter_14 ?_
    rintro _ _ ⟨rfl, rfl⟩
    refine J_callV C (c_Term_append _ _ cur _ _ _ _ (s.2.2 (s.1 - 1)).2.2.2.2.1 _ (y8 _ (by omega)) t1 (sp_let b) (by have := sp_let_lt b; omega)) cw_X6_89 (by first | assumption | exact jv_up_at _ _ _ | (simp [jv_up, *]; done)) rfl rfl rfl rfl (by exact Nat.le_of_ble_eq_true rfl) (by decide) (by omega) (by omega) dX6_takeLetter_17 ?_
    rintro _ _ (⟨w1, rfl, rfl⟩ | ⟨w1, rfl, rfl⟩)
    · refine J_bif_ne C 25 (by decide) dX6_takeLetter_20 (fun z2 => ?_) (fun z2 => ?_)
      · cases z2
      · refine J_iconst C (v := nI 2) (by decide) dX6_takeLetter_23 ?_
        refine J_iret C D (by rw [show qs_let s b = (2, s) by unfold qs_let; rw [z1, if_pos rfl, if_pos w1]]; exact ⟨rfl, Nat.le_of_ble_eq_true rfl, ⟨cur, Y0, fun z => by cases z⟩, fr_rf _ _⟩) (by omega) (by omega) dX6_takeLetter_24
    · refine J_bif_ne C 25 (by decide) dX6_takeLetter_20 (fun z2 => ?_) (fun z2 => ?_)
      · have Y1 := qy_t Y0 (k := s.1 - 1) (by omega) (v := tm_app (s.2.2 (s.1 - 1)) b) (by show _ + 1 ≤ 12; omega)
        rw [← u2] at Y1
        have Y2 := Y1
        obtain ⟨v1, -⟩ := Y2
        first | refine J_aload_n C rfl dX6_takeLetter_25 ?_ | refine J_aload_nq C rfl dX6_takeLetter_25 ?_ | refine J_aload_nN C rfl dX6_takeLetter_25 ?_
        refine J_iconst C (v := nI 2) (by decide) dX6_takeLetter_26 ?_
        refine J_put C fl_X6_32 (by exact v1) (by exact Nat.le_of_ble_eq_true rfl) (by rfl) (by rfl) dX6_takeLetter_27 ?_
        refine J_iconst C (v := nI 0) (by decide) dX6_takeLetter_30 ?_
        refine J_iret C D (by rw [show qs_let s b = (0, (s.1, 2, va_up s.2.2 (s.1 - 1) (tm_app (s.2.2 (s.1 - 1)) b))) by unfold qs_let; rw [z1, if_pos rfl, if_neg (by omega)]]; exact ⟨rfl, Nat.le_of_ble_eq_true rfl, ⟨cur, qy_a Y1 y6 (by decide) y9, fun _ _ => ⟨u1, u2⟩⟩, fr_tr (fr_up (Or.inr ⟨s.1 - 1, by omega, u2⟩)) (fr_up (Or.inl rfl))⟩) (by omega) (by omega) dX6_takeLetter_31
      · cases z2
  · refine J_iconst C (v := nI 1) (by decide) dX6_takeLetter_7 ?_
    refine J_iret C D (by rw [show qs_let s b = (1, s) by unfold qs_let; rw [z1]; rfl]; exact ⟨rfl, Nat.le_of_ble_eq_true rfl, ⟨cur, Y0, fun z => by cases z⟩, fr_rf _ _⟩) (by omega) (by omega) dX6_takeLetter_8
set_option maxHeartbeats 400000 in
theorem c_Query_takeBehindStar (Y : qy h a ta tt cur fk fp s) (U : qy_cur tt cur s) (hb : b < 256) : Cn l yX6_takeBehindStar cX6_takeBehindStar 2 (some .int) 2 0 0 [.ref a, .int (nI b)] h (qy_post h a ta tt fk fp (qs_star s b)) := by
  have Y0 := Y
  obtain ⟨y1, y2, y4, y5, y6, y7, y8, y9⟩ := Y
  refine Cn.of (own := RX6) rfl (by decide) (by exact Nat.le_of_ble_eq_true rfl) (by decide) (fun K hK C D I => ?_)
  refine J_iload_n C rfl dX6_takeBehindStar_0 ?_
  refine J_bipush C (v := nI 94) (by decide) dX6_takeBehindStar_1 ?_
  refine J_nicmp_ne C (by first | omega | (dsimp only; omega)) (by first | omega | (dsimp only; omega)) 13 (by decide) dX6_takeBehindStar_3 (fun z1 => ?_) (fun z1 => ?_)
  · first | refine J_aload_n C rfl dX6_takeBehindStar_13 ?_ | refine J_aload_nq C rfl dX6_takeBehindStar_13 ?_ | refine J_aload_nN C rfl dX6_takeBehindStar_13 ?_
    refine J_iload_n C rfl dX6_takeBehindStar_14 ?_
    refine J_callV C (c_Query_takeBlank Y0 hb) cw_X6_67 (by first | assumption | exact jv_up_at _ _ _ | (simp [jv_up, *]; done)) rfl rfl rfl rfl (by exact Nat.le_of_ble_eq_true rfl) (by decide) (by omega) (by omega) dX6_takeBehindStar_15 ?_
    intro r h1 hp
    obtain ⟨rfl, hp2⟩ := hp
    refine J_iret C D (by rw [show qs_star s b = qs_blank s b from if_neg z1]; exact ⟨rfl, hp2⟩) (by omega) (by omega) dX6_takeBehindStar_18
  · first | refine J_aload_n C rfl dX6_takeBehindStar_6 ?_ | refine J_aload_nq C rfl dX6_takeBehindStar_6 ?_ | refine J_aload_nN C rfl dX6_takeBehindStar_6 ?_
    refine J_iconst C (v := nI 4) (by decide) dX6_takeBehindStar_7 ?_
    refine J_put C fl_X6_32 (by first | assumption | exact jv_up_at _ _ _ | (simp [jv_up, *]; done)) (by exact Nat.le_of_ble_eq_true rfl) (by rfl) (by rfl) dX6_takeBehindStar_8 ?_
    refine J_iconst C (v := nI 0) (by decide) dX6_takeBehindStar_11 ?_
    refine J_iret C D (by rw [show qs_star s b = (0, (s.1, 4, s.2.2)) from if_pos z1]; exact ⟨rfl, Nat.le_of_ble_eq_true rfl, ⟨cur, qy_a Y0 y6 (by decide) y9, fun _ _ => U⟩, fr_up (Or.inl rfl)⟩) (by omega) (by omega) dX6_takeBehindStar_12
set_option maxHeartbeats 400000 in
theorem c_Query_takeBehindLetter (Y : qy h a ta tt cur fk fp s) (U : qy_cur tt cur s) (hb : b < 256) : Cn l yX6_takeBehindLetter cX6_takeBehindLetter 2 (some .int) 4 0 0 [.ref a, .int (nI b)] h (qy_post h a ta tt fk fp (qs_behind s b)) := by
  have Y0 := Y
  obtain ⟨y1, y2, y4, y5, y6, y7, y8, y9⟩ := Y
  have U0 := U
  obtain ⟨u1, u2⟩ := U
  have t1 : h cur = some (tm (s.2.2 (s.1 - 1))) := by rw [u2]; exact y4 _ (by omega)
  refine Cn.of (own := RX6) rfl (by decide) (by exact Nat.le_of_ble_eq_true rfl) (by decide) (fun K hK C D I => ?_)
  refine J_iload_n C rfl dX6_takeBehindLetter_0 ?_
  refine J_callS C (c_isLetter _ _ b (by omega)) cw_X6_70 rfl rfl (by exact Nat.le_of_ble_eq_true rfl) (by decide) (by omega) (by omega) dX6_takeBehindLetter_1 ?_
  rintro _ _ ⟨rfl, rfl⟩
  refine J_bif_eq C 13 (by decide) dX6_takeBehindLetter_4 (fun z1 => ?_) (fun z1 => ?_)
  · refine J_iload_n C rfl dX6_takeBehindLetter_13 ?_
    refine J_bipush C (v := nI 42) (by decide) dX6_takeBehindLetter_14 ?_
    refine J_nicmp_ne C (by first | omega | (dsimp only; omega)) (by first | omega | (dsimp only; omega)) 34 (by decide) dX6_takeBehindLetter_16 (fun z2 => ?_) (fun z2 => ?_)
    · first | refine J_aload_n C rfl dX6_takeBehindLetter_34 ?_ | refine J_aload_nq C rfl dX6_takeBehindLetter_34 ?_ | refine J_aload_nN C rfl dX6_takeBehindLetter_34 ?_
      refine J_iload_n C rfl dX6_takeBehindLetter_35 ?_
      refine J_callV C (c_Query_takeBehindStar Y0 U0 hb) cw_X6_61 (by first | assumption | exact jv_up_at _ _ _ | (simp [jv_up, *]; done)) rfl rfl rfl rfl (by exact Nat.le_of_ble_eq_true rfl) (by decide) (by omega) (by omega) dX6_takeBehindLetter_36 ?_
      intro r h1 hp
      obtain ⟨rfl, hp2⟩ := hp
      refine J_iret C D (by rw [show qs_behind s b = qs_star s b by unfold qs_behind; rw [z1, if_neg (by decide), if_neg z2]]; exact ⟨rfl, hp2⟩) (by omega) (by omega) dX6_takeBehindLetter_39
    · have Y1 := qy_t Y0 (k := s.1 - 1) (by omega) (v := tm_open (s.2.2 (s.1 - 1))) (by exact y8 _ (by omega))
      rw [← u2] at Y1
      have Y2 := Y1
      obtain ⟨v1, -⟩ := Y2
      first | refine J_aload_n C rfl dX6_takeBehindLetter_19 ?_ | refine J_aload_nq C rfl dX6_takeBehindLetter_19 ?_ | refine J_aload_nN C rfl dX6_takeBehindLetter_19 ?_
      refine J_get C fl_X6_18 (by first | assumption | exact jv_up_at _ _ _ | (simp [jv_up, *]; done)) (by rfl) dX6_takeBehindLetter_20 ?_
      refine J_iconst C (v := nI 1) (by decide) dX6_takeBehindLetter_23 ?_
      refine J_put C fl_X6_92 (by first | assumption | exact jv_up_at _ _ _ | (simp [jv_up, *]; done)) (by exact Nat.le_of_ble_eq_true rfl) (by rfl) (by rfl) dX6_takeBehindLetter_24 ?_
      refine J_eq rfl (show jv_up _ cur (tm (tm_open (s.2.2 (s.1 - 1)))) = _ from rfl) ?_
      first | refine J_aload_n C rfl dX6_takeBehindLetter_27 ?_ | refine J_aload_nq C rfl dX6_takeBehindLetter_27 ?_ | refine J_aload_nN C rfl dX6_takeBehindLetter_27 ?_
      refine J_iconst C (v := nI 3) (by decide) dX6_takeBehindLetter_28 ?_
      refine J_put C fl_X6_32 (by exact v1) (by exact Nat.le_of_ble_eq_true rfl) (by rfl) (by rfl) dX6_takeBehindLetter_29 ?_
      refine J_iconst C (v := nI 0) (by decide) dX6_takeBehindLetter_32 ?_
      refine J_iret C D (by rw [show qs_behind s b = (0, (s.1, 3, va_up s.2.2 (s.1 - 1) (tm_open (s.2.2 (s.1 - 1))))) by unfold qs_behind; rw [z1, if_neg (by decide), if_pos z2]]; exact ⟨rfl, Nat.le_of_ble_eq_true rfl, ⟨cur, qy_a Y1 y6 (by decide) y9, fun _ _ => ⟨u1, u2⟩⟩, fr_tr (fr_up (Or.inr ⟨s.1 - 1, by omega, u2⟩)) (fr_up (Or.inl rfl))⟩) (by omega) (by omega) dX6_takeBehindLetter_33
  · first | refine J_aload_n C rfl dX6_takeBehindLetter_7 ?_ | refine J_aload_nq C rfl dX6_takeBehindLetter_7 ?_ | refine J_aload_nN C rfl dX6_takeBehindLetter_7 ?_
    refine J_iload_n C rfl dX6_takeBehindLetter_8 ?_
    refine J_callV C (c_Query_takeLetter Y0 U0 hb) cw_X6_55 (by first | assumption | exact jv_up_at _ _ _ | (simp [jv_up, *]; done)) rfl rfl rfl rfl (by exact Nat.le_of_ble_eq_true rfl) (by decide) (by omega) (by omega) dX6_takeBehindLetter_9 ?_
    intro r h1 hp
    obtain ⟨rfl, hp2⟩ := hp
    refine J_iret C D (by rw [show qs_behind s b = qs_let s b by unfold qs_behind; rw [z1, if_pos rfl]]; exact ⟨rfl, hp2⟩) (by omega) (by omega) dX6_takeBehindLetter_12
set_option maxHeartbeats 400000 in
theorem c_Query_takeFigure (Y : qy h a ta tt cur fk fp s) (U : qy_cur tt cur s) (hb : b < 256) : Cn l yX6_takeFigure cX6_takeFigure 2 (some .int) 2 0 0 [.ref a, .int (nI b)] h (qy_post h a ta tt fk fp (qs_fig s b)) := by
  have Y0 := Y
  obtain ⟨y1, y2, y4, y5, y6, y7, y8, y9⟩ := Y
  have U0 := U
  obtain ⟨u1, u2⟩ := U
  have t1 : h cur = some (tm (s.2.2 (s.1 - 1))) := by rw [u2]; exact y4 _ (by omega)
  refine Cn.of (own := RX6) rfl (by decide) (by exact Nat.le_of_ble_eq_true rfl) (by decide) (fun K hK C D I => ?_)
  refine J_iload_n C rfl dX6_takeFigure_0 ?_
  refine J_bipush C (v := nI 49) (by decide) dX6_takeFigure_1 ?_
  refine J_nicmp_lt C (by first | omega | (dsimp only; omega)) (by first | omega | (dsimp only; omega)) 12 (by decide) dX6_takeFigure_3 (fun z1 => ?_) (fun z1 => ?_)
  · refine J_iconst C (v := nI 1) (by decide) dX6_takeFigure_12 ?_
    refine J_iret C D (by rw [show qs_fig s b = (1, s) from if_pos (Or.inl z1)]; exact ⟨rfl, Nat.le_of_ble_eq_true rfl, ⟨cur, Y0, fun z => by cases z⟩, fr_rf _ _⟩) (by omega) (by omega) dX6_takeFigure_13
  · refine J_iload_n C rfl dX6_takeFigure_6 ?_
    refine J_bipush C (v := nI 57) (by decide) dX6_takeFigure_7 ?_
    refine J_nicmp_le C (by first | omega | (dsimp only; omega)) (by first | omega | (dsimp only; omega)) 14 (by decide) dX6_takeFigure_9 (fun z2 => ?_) (fun z2 => ?_)
    · have Y1 := qy_t Y0 (k := s.1 - 1) (by omega) (v := tm_wt (s.2.2 (s.1 - 1)) (b - 48)) (by exact y8 _ (by omega))
      rw [← u2] at Y1
      have Y2 := Y1
      obtain ⟨v1, -⟩ := Y2
      first | refine J_aload_n C rfl dX6_takeFigure_14 ?_ | refine J_aload_nq C rfl dX6_takeFigure_14 ?_ | refine J_aload_nN C rfl dX6_takeFigure_14 ?_
      refine J_get C fl_X6_18 (by first | assumption | exact jv_up_at _ _ _ | (simp [jv_up, *]; done)) (by rfl) dX6_takeFigure_15 ?_
      refine J_iload_n C rfl dX6_takeFigure_18 ?_
      refine J_bipush C (v := nI 48) (by decide) dX6_takeFigure_19 ?_
      first | refine J_nisub C (by omega) dX6_takeFigure_21 ?_ | refine J_isub C dX6_takeFigure_21 ?_
      refine J_put C fl_X6_95 (by first | assumption | exact jv_up_at _ _ _ | (simp [jv_up, *]; done)) (by exact Nat.le_of_ble_eq_true rfl) (by rfl) (by rfl) dX6_takeFigure_22 ?_
      refine J_eq rfl (show jv_up _ cur (tm (tm_wt (s.2.2 (s.1 - 1)) (b - 48))) = _ from rfl) ?_
      first | refine J_aload_n C rfl dX6_takeFigure_25 ?_ | refine J_aload_nq C rfl dX6_takeFigure_25 ?_ | refine J_aload_nN C rfl dX6_takeFigure_25 ?_
      refine J_iconst C (v := nI 5) (by decide) dX6_takeFigure_26 ?_
      refine J_put C fl_X6_32 (by exact v1) (by exact Nat.le_of_ble_eq_true rfl) (by rfl) (by rfl) dX6_takeFigure_27 ?_
      refine J_iconst C (v := nI 0) (by decide) dX6_takeFigure_30 ?_
      refine J_iret C D (by rw [show qs_fig s b = (0, (s.1, 5, va_up s.2.2 (s.1 - 1) (tm_wt (s.2.2 (s.1 - 1)) (b - 48)))) from if_neg (by omega)]; exact ⟨rfl, Nat.le_of_ble_eq_true rfl, ⟨cur, qy_a Y1 y6 (by decide) y9, fun _ _ => ⟨u1, u2⟩⟩, fr_tr (fr_up (Or.inr ⟨s.1 - 1, by omega, u2⟩)) (fr_up (Or.inl rfl))⟩) (by omega) (by omega) dX6_takeFigure_31
    · refine J_iconst C (v := nI 1) (by decide) dX6_takeFigure_12 ?_
      refine J_iret C D (by rw [show qs_fig s b = (1, s) from if_pos (Or.inr z2)]; exact ⟨rfl, Nat.le_of_ble_eq_true rfl, ⟨cur, Y0, fun z => by cases z⟩, fr_rf _ _⟩) (by omega) (by omega) dX6_takeFigure_13
end QY
end
section
section QY2
variable {l : jL} {h : jH} {a ta : Nat} {tt : Nat → Nat} {cur fk : Nat} {fp : Int32} {s : qsT} {b : Nat}
set_option maxHeartbeats 400000 in
theorem c_Query_takeBetweenTerms (Y : qy h a ta tt cur fk fp s) (hb : b < 256) : Cn l yX6_takeBetweenTerms cX6_takeBetweenTerms 3 (some .int) 4 0 0 [.ref a, .int (nI b)] h (qy_post h a ta tt fk fp (qs_between s b)) := by
  have Y0 := Y
  obtain ⟨y1, ⟨f, y2, y3⟩, y4, y5, y6, y7, y8, y9⟩ := Y
  refine Cn.of (own := RX6) rfl (by decide) (by exact Nat.le_of_ble_eq_true rfl) (by decide) (fun K hK C D I => ?_)
  have K35 : ∀ sg : Bool, (sg = true ↔ (b = 43 ∨ b = 45)) → (sg = true ∨ sp_isl b = true) → J K 0 0 35 (jv_l [(0, .ref a), (1, .int (nI b)), (2, .int (jv_b sg))]) [] h := by
    intro sg hsg hor
    have hor2 : (b = 43 ∨ b = 45) ∨ sp_isl b = true := hor.elim (fun z => Or.inl (hsg.mp z)) Or.inr
    first | refine J_aload_n C rfl dX6_takeBetweenTerms_35 ?_ | refine J_aload_nq C rfl dX6_takeBetweenTerms_35 ?_ | refine J_aload_nN C rfl dX6_takeBetweenTerms_35 ?_
    refine J_get C fl_X6_29 (by first | assumption | exact jv_up_at _ _ _ | (simp [jv_up, *]; done)) (by rfl) dX6_takeBetweenTerms_36 ?_
    first | refine J_aload_n C rfl dX6_takeBetweenTerms_39 ?_ | refine J_aload_nq C rfl dX6_takeBetweenTerms_39 ?_ | refine J_aload_nN C rfl dX6_takeBetweenTerms_39 ?_
    refine J_get C fl_X6_11 (by first | assumption | exact jv_up_at _ _ _ | (simp [jv_up, *]; done)) (by rfl) dX6_takeBetweenTerms_40 ?_
    refine J_alen C (by first | assumption | exact jv_up_at _ _ _ | (simp [jv_up, *]; done)) (by decide) dX6_takeBetweenTerms_43 ?_
    refine J_nicmp_lt C (by first | omega | (dsimp only; omega)) (by first | omega | (dsimp only; omega)) 49 (by decide) dX6_takeBetweenTerms_44 (fun z1 => ?_) (fun z1 => ?_)
    · have hc : s.1 < 16 := z1
      first | refine J_aload_n C rfl dX6_takeBetweenTerms_49 ?_ | refine J_aload_nq C rfl dX6_takeBetweenTerms_49 ?_ | refine J_aload_nN C rfl dX6_takeBetweenTerms_49 ?_
      first | refine J_aload_n C rfl dX6_takeBetweenTerms_50 ?_ | refine J_aload_nq C rfl dX6_takeBetweenTerms_50 ?_ | refine J_aload_nN C rfl dX6_takeBetweenTerms_50 ?_
      refine J_get C fl_X6_11 (by first | assumption | exact jv_up_at _ _ _ | (simp [jv_up, *]; done)) (by rfl) dX6_takeBetweenTerms_51 ?_
      first | refine J_aload_n C rfl dX6_takeBetweenTerms_54 ?_ | refine J_aload_nq C rfl dX6_takeBetweenTerms_54 ?_ | refine J_aload_nN C rfl dX6_takeBetweenTerms_54 ?_
      refine J_get C fl_X6_29 (by first | assumption | exact jv_up_at _ _ _ | (simp [jv_up, *]; done)) (by rfl) dX6_takeBetweenTerms_55 ?_
      refine J_aald C y2 (Or.inr rfl) rfl hc (by decide) dX6_takeBetweenTerms_58 ?_
      rw [y3 _ hc]
      have Y1 := qy_a Y0 (cnt := s.1 + 1) (cur' := tt s.1) (st := s.2.1) (fk' := fk) (fp' := fp) hc y7 y9
      have t1 := Y1.2.2.1 s.1 hc
      have Y2 := qy_t Y1 hc (v := tm0) (by decide)
      have Y2c := Y2.1
      refine J_put C fl_X6_18 (by first | assumption | exact jv_up_at _ _ _ | (simp [jv_up, *]; done)) (by exact Nat.le_of_ble_eq_true rfl) (by first | rfl | exact jv_nar_o _ _) (by first | rfl | exact jv_fit_o _ _) dX6_takeBetweenTerms_59 ?_
      first | refine J_aload_n C rfl dX6_takeBetweenTerms_62 ?_ | refine J_aload_nq C rfl dX6_takeBetweenTerms_62 ?_ | refine J_aload_nN C rfl dX6_takeBetweenTerms_62 ?_
      refine J_dup C rfl dX6_takeBetweenTerms_63 ?_
      refine J_get C fl_X6_29 (by first | assumption | exact jv_up_at _ _ _ | (simp [jv_up, *]; done)) (by rfl) dX6_takeBetweenTerms_64 ?_
      refine J_iconst C (v := nI 1) (by decide) dX6_takeBetweenTerms_67 ?_
      first | refine J_niadd C dX6_takeBetweenTerms_68 ?_ | refine J_iadd C dX6_takeBetweenTerms_68 ?_
      refine J_put C fl_X6_29 (by first | assumption | exact jv_up_at _ _ _ | (simp [jv_up, *]; done)) (by exact Nat.le_of_ble_eq_true rfl) (by rfl) (by rfl) dX6_takeBetweenTerms_69 ?_
      rw [jv_up_up]
      first | refine J_aload_n C rfl dX6_takeBetweenTerms_72 ?_ | refine J_aload_nq C rfl dX6_takeBetweenTerms_72 ?_ | refine J_aload_nN C rfl dX6_takeBetweenTerms_72 ?_
      refine J_get C fl_X6_18 (by exact Y1.1) (by rfl) dX6_takeBetweenTerms_73 ?_
      refine J_callV C (c_Term_begin _ _ (tt s.1) _ t1) cw_X6_76 (by first | assumption | exact jv_up_at _ _ _ | (simp [jv_up, *]; done)) rfl rfl rfl rfl (by exact Nat.le_of_ble_eq_true rfl) (by decide) (by omega) (by omega) dX6_takeBetweenTerms_76 ?_
      rintro _ _ ⟨rfl, rfl⟩
      refine J_iload_n C rfl dX6_takeBetweenTerms_79 ?_
      refine J_bif_ne C 89 (by decide) dX6_takeBetweenTerms_80 (fun z2 => ?_) (fun z2 => ?_)
      · have hs2 := hsg.mp z2
        have hq : qs_between s b = (0, (s.1 + 1, 1, va_up s.2.2 s.1 (tm_sgn b))) := by unfold qs_between; rw [if_pos hor2, if_neg (by omega), if_pos hs2]
        have Y3 := qy_t Y1 hc (v := tm_sgn b) (by exact Nat.zero_le _)
        have K125 : J K 0 0 125 (jv_l [(0, .ref a), (1, .int (nI b)), (2, .int (jv_b sg))]) [] (jv_up (jv_up h a (qyO ta (s.1 + 1) (tt s.1) s.2.1 fk fp)) (tt s.1) (tm (tm_sgn b))) := by
          have Y3c := Y3.1
          first | refine J_aload_n C rfl dX6_takeBetweenTerms_125 ?_ | refine J_aload_nq C rfl dX6_takeBetweenTerms_125 ?_ | refine J_aload_nN C rfl dX6_takeBetweenTerms_125 ?_
          refine J_iconst C (v := nI 1) (by decide) dX6_takeBetweenTerms_126 ?_
          refine J_put C fl_X6_32 (by exact Y3c) (by exact Nat.le_of_ble_eq_true rfl) (by rfl) (by rfl) dX6_takeBetweenTerms_127 ?_
          refine J_iconst C (v := nI 0) (by decide) dX6_takeBetweenTerms_130 ?_
          refine J_iret C D (by rw [hq]; exact ⟨rfl, Nat.le_of_ble_eq_true rfl, ⟨tt s.1, qy_a Y3 hc (by decide) y9, fun _ _ => ⟨Nat.le_add_left 1 _, rfl⟩⟩, fr_tr (fr_tr (fr_up (Or.inl rfl)) (fr_up (Or.inr ⟨s.1, hc, rfl⟩))) (fr_up (Or.inl rfl))⟩) (by omega) (by omega) dX6_takeBetweenTerms_131
        first | refine J_aload_n C rfl dX6_takeBetweenTerms_89 ?_ | refine J_aload_nq C rfl dX6_takeBetweenTerms_89 ?_ | refine J_aload_nN C rfl dX6_takeBetweenTerms_89 ?_
        refine J_get C fl_X6_18 (by exact Y2c) (by rfl) dX6_takeBetweenTerms_90 ?_
        refine J_iload_n C rfl dX6_takeBetweenTerms_93 ?_
        refine J_bipush C (v := nI 43) (by decide) dX6_takeBetweenTerms_94 ?_
        have t3 := jv_up_at (jv_up h a (qyO ta (s.1 + 1) (tt s.1) s.2.1 fk fp)) (tt s.1) (tm tm0)
        rcases hs2 with rfl | rfl
        · refine J_nicmp_ne C (by first | omega | (dsimp only; omega)) (by first | omega | (dsimp only; omega)) 103 (by decide) dX6_takeBetweenTerms_96 (fun z3 => ?_) (fun z3 => ?_)
          · exact absurd rfl z3
          · refine J_iconst C (v := nI 1) (by decide) dX6_takeBetweenTerms_99 ?_
            refine J_goto C 104 (by decide) dX6_takeBetweenTerms_100 ?_
            refine J_put C fl_X6_79 (by first | assumption | exact jv_up_at _ _ _ | (simp [jv_up, *]; done)) (by exact Nat.le_of_ble_eq_true rfl) (by rfl) (by rfl) dX6_takeBetweenTerms_104 ?_
            have Y4 := qy_t Y1 hc (v := (true, false, false, lN 0, 0, 1)) (by exact Nat.zero_le _)
            rw [jv_up_up]
            first | refine J_aload_n C rfl dX6_takeBetweenTerms_107 ?_ | refine J_aload_nq C rfl dX6_takeBetweenTerms_107 ?_ | refine J_aload_nN C rfl dX6_takeBetweenTerms_107 ?_
            refine J_get C fl_X6_18 (by exact Y4.1) (by rfl) dX6_takeBetweenTerms_108 ?_
            refine J_iload_n C rfl dX6_takeBetweenTerms_111 ?_
            refine J_bipush C (v := nI 45) (by decide) dX6_takeBetweenTerms_112 ?_
            refine J_nicmp_ne C (by first | omega | (dsimp only; omega)) (by first | omega | (dsimp only; omega)) 121 (by decide) dX6_takeBetweenTerms_114 (fun z4 => ?_) (fun z4 => ?_)
            · refine J_iconst C (v := nI 0) (by decide) dX6_takeBetweenTerms_121 ?_
              refine J_put C fl_X6_83 (by first | assumption | exact jv_up_at _ _ _ | (simp [jv_up, *]; done)) (by exact Nat.le_of_ble_eq_true rfl) (by rfl) (by rfl) dX6_takeBetweenTerms_122 ?_
              rw [jv_up_up]
              exact J_sub (by exact (And.intro rfl (And.intro rfl (And.intro rfl trivial)))) (K125)
            · omega
        · refine J_nicmp_ne C (by first | omega | (dsimp only; omega)) (by first | omega | (dsimp only; omega)) 103 (by decide) dX6_takeBetweenTerms_96 (fun z3 => ?_) (fun z3 => ?_)
          · refine J_iconst C (v := nI 0) (by decide) dX6_takeBetweenTerms_103 ?_
            refine J_put C fl_X6_79 (by first | assumption | exact jv_up_at _ _ _ | (simp [jv_up, *]; done)) (by exact Nat.le_of_ble_eq_true rfl) (by rfl) (by rfl) dX6_takeBetweenTerms_104 ?_
            have Y4 := qy_t Y1 hc (v := (false, false, false, lN 0, 0, 1)) (by exact Nat.zero_le _)
            rw [jv_up_up]
            first | refine J_aload_n C rfl dX6_takeBetweenTerms_107 ?_ | refine J_aload_nq C rfl dX6_takeBetweenTerms_107 ?_ | refine J_aload_nN C rfl dX6_takeBetweenTerms_107 ?_
            refine J_get C fl_X6_18 (by exact Y4.1) (by rfl) dX6_takeBetweenTerms_108 ?_
            refine J_iload_n C rfl dX6_takeBetweenTerms_111 ?_
            refine J_bipush C (v := nI 45) (by decide) dX6_takeBetweenTerms_112 ?_
            refine J_nicmp_ne C (by first | omega | (dsimp only; omega)) (by first | omega | (dsimp only; omega)) 121 (by decide) dX6_takeBetweenTerms_114 (fun z4 => ?_) (fun z4 => ?_)
            · exact absurd rfl z4
            · refine J_iconst C (v := nI 1) (by decide) dX6_takeBetweenTerms_117 ?_
              refine J_goto C 122 (by decide) dX6_takeBetweenTerms_118 ?_
              refine J_put C fl_X6_83 (by first | assumption | exact jv_up_at _ _ _ | (simp [jv_up, *]; done)) (by exact Nat.le_of_ble_eq_true rfl) (by rfl) (by rfl) dX6_takeBetweenTerms_122 ?_
              rw [jv_up_up]
              exact J_sub (by exact (And.intro rfl (And.intro rfl (And.intro rfl trivial)))) (K125)
          · omega
      · have hs2 : ¬ (b = 43 ∨ b = 45) := fun w => by rw [hsg.mpr w] at z2; cases z2
        have hq : qs_between s b = qs_let (s.1 + 1, s.2.1, va_up s.2.2 s.1 tm0) b := by unfold qs_between; rw [if_pos hor2, if_neg (by omega), if_neg hs2]
        first | refine J_aload_n C rfl dX6_takeBetweenTerms_83 ?_ | refine J_aload_nq C rfl dX6_takeBetweenTerms_83 ?_ | refine J_aload_nN C rfl dX6_takeBetweenTerms_83 ?_
        refine J_iload_n C rfl dX6_takeBetweenTerms_84 ?_
        refine J_callV C (c_Query_takeLetter Y2 ⟨Nat.le_add_left 1 _, rfl⟩ hb) cw_X6_55 (by first | assumption | exact jv_up_at _ _ _ | (simp [jv_up, *]; done)) rfl rfl rfl rfl (by exact Nat.le_of_ble_eq_true rfl) (by decide) (by omega) (by omega) dX6_takeBetweenTerms_85 ?_
        intro r h1 hp
        obtain ⟨rfl, hp2, hp3, hp4⟩ := hp
        refine J_iret C D (by rw [hq]; exact ⟨rfl, hp2, hp3, fr_tr (fr_tr (fr_up (Or.inl rfl)) (fr_up (Or.inr ⟨s.1, hc, rfl⟩))) hp4⟩) (by omega) (by omega) dX6_takeBetweenTerms_88
    · have hc : 16 ≤ s.1 := z1
      refine J_iconst C (v := nI 3) (by decide) dX6_takeBetweenTerms_47 ?_
      refine J_iret C D (by rw [show qs_between s b = (3, s) by unfold qs_between; rw [if_pos hor2, if_pos hc]]; exact ⟨rfl, Nat.le_of_ble_eq_true rfl, ⟨cur, Y0, fun z => by cases z⟩, fr_rf _ _⟩) (by omega) (by omega) dX6_takeBetweenTerms_48
  have K17 : ∀ sg : Bool, (sg = true ↔ (b = 43 ∨ b = 45)) → J K 0 0 17 (jv_l (lv_args 0 [.ref a, .int (nI b)])) [.int (jv_b sg)] h := by
    intro sg hsg
    refine J_istore_n C (by decide) dX6_takeBetweenTerms_17 ?_
    refine J_iload_n C rfl dX6_takeBetweenTerms_18 ?_
    refine J_bif_ne C 35 (by decide) dX6_takeBetweenTerms_19 (fun z1 => ?_) (fun z1 => ?_)
    · exact J_sub (by exact (And.intro rfl (And.intro rfl (And.intro rfl trivial)))) (K35 sg hsg (Or.inl z1))
    · refine J_iload_n C rfl dX6_takeBetweenTerms_22 ?_
      refine J_callS C (c_isLetter _ _ b (by omega)) cw_X6_70 rfl rfl (by exact Nat.le_of_ble_eq_true rfl) (by decide) (by omega) (by omega) dX6_takeBetweenTerms_23 ?_
      rintro _ _ ⟨rfl, rfl⟩
      refine J_bif_ne C 35 (by decide) dX6_takeBetweenTerms_26 (fun z2 => ?_) (fun z2 => ?_)
      · exact J_sub (by exact (And.intro rfl (And.intro rfl (And.intro rfl trivial)))) (K35 sg hsg (Or.inr z2))
      · first | refine J_aload_n C rfl dX6_takeBetweenTerms_29 ?_ | refine J_aload_nq C rfl dX6_takeBetweenTerms_29 ?_ | refine J_aload_nN C rfl dX6_takeBetweenTerms_29 ?_
        refine J_iload_n C rfl dX6_takeBetweenTerms_30 ?_
        refine J_callV C (c_Query_takeBlank Y0 hb) cw_X6_67 (by first | assumption | exact jv_up_at _ _ _ | (simp [jv_up, *]; done)) rfl rfl rfl rfl (by exact Nat.le_of_ble_eq_true rfl) (by decide) (by omega) (by omega) dX6_takeBetweenTerms_31 ?_
        intro r h1 hp
        obtain ⟨rfl, hp2⟩ := hp
        have hs2 : ¬ (b = 43 ∨ b = 45) := fun w => by rw [hsg.mpr w] at z1; cases z1
        refine J_iret C D (by rw [show qs_between s b = qs_blank s b by unfold qs_between; rw [if_neg]; rintro (w | w); exact hs2 w; rw [z2] at w; cases w]; exact ⟨rfl, hp2⟩) (by omega) (by omega) dX6_takeBetweenTerms_34
  refine J_iload_n C rfl dX6_takeBetweenTerms_0 ?_
  refine J_bipush C (v := nI 43) (by decide) dX6_takeBetweenTerms_1 ?_
  refine J_nicmp_eq C (by first | omega | (dsimp only; omega)) (by first | omega | (dsimp only; omega)) 12 (by decide) dX6_takeBetweenTerms_3 (fun z1 => ?_) (fun z1 => ?_)
  · refine J_iconst C (v := nI 1) (by decide) dX6_takeBetweenTerms_12 ?_
    refine J_goto C 17 (by decide) dX6_takeBetweenTerms_13 ?_
    exact K17 true ⟨fun _ => Or.inl z1, fun _ => rfl⟩
  · refine J_iload_n C rfl dX6_takeBetweenTerms_6 ?_
    refine J_bipush C (v := nI 45) (by decide) dX6_takeBetweenTerms_7 ?_
    refine J_nicmp_ne C (by first | omega | (dsimp only; omega)) (by first | omega | (dsimp only; omega)) 16 (by decide) dX6_takeBetweenTerms_9 (fun z2 => ?_) (fun z2 => ?_)
    · refine J_iconst C (v := nI 0) (by decide) dX6_takeBetweenTerms_16 ?_
      exact K17 false ⟨fun w => absurd w (by decide), fun w => by omega⟩
    · refine J_iconst C (v := nI 1) (by decide) dX6_takeBetweenTerms_12 ?_
      refine J_goto C 17 (by decide) dX6_takeBetweenTerms_13 ?_
      exact K17 true ⟨fun _ => Or.inr z2, fun _ => rfl⟩
set_option maxHeartbeats 400000 in
theorem c_Query_take (Y : qy h a ta tt cur fk fp s) (U : s.2.1 ≠ 0 → qy_cur tt cur s) (hb : b < 256) : Cn l yX6_take cX6_take 2 (some .int) 5 0 0 [.ref a, .int (nI b)] h (qy_post h a ta tt fk fp (qs_take s b)) := by
  have Y0 := Y
  obtain ⟨y1, y2, y4, y5, y6, y7, y8, y9⟩ := Y
  refine Cn.of (own := RX6) rfl (by decide) (by exact Nat.le_of_ble_eq_true rfl) (by decide) (fun K hK C D I => ?_)
  first | refine J_aload_n C rfl dX6_take_0 ?_ | refine J_aload_nq C rfl dX6_take_0 ?_ | refine J_aload_nN C rfl dX6_take_0 ?_
  refine J_get C fl_X6_32 (by first | assumption | exact jv_up_at _ _ _ | (simp [jv_up, *]; done)) (by rfl) dX6_take_1 ?_
  have ht : (nI s.2.1).toInt = (s.2.1 : Int) := nI_toInt (by omega)
  rcases (show s.2.1 = 0 ∨ s.2.1 = 1 ∨ s.2.1 = 2 ∨ s.2.1 = 3 ∨ s.2.1 = 4 ∨ s.2.1 = 5 by omega) with e | e | e | e | e | e
  · refine J_tableIn C (off := 36) 40 (by rw [ht]; omega) (by rw [ht]; omega) (by rw [ht, e]; rfl) (by decide) dX6_take_4 ?_
    first | refine J_aload_n C rfl dX6_take_40 ?_ | refine J_aload_nq C rfl dX6_take_40 ?_ | refine J_aload_nN C rfl dX6_take_40 ?_
    refine J_iload_n C rfl dX6_take_41 ?_
    refine J_callV C (c_Query_takeBetweenTerms Y0 hb) cw_X6_52 (by first | assumption | exact jv_up_at _ _ _ | (simp [jv_up, *]; done)) rfl rfl rfl rfl (by exact Nat.le_of_ble_eq_true rfl) (by decide) (by omega) (by omega) dX6_take_42 ?_
    intro r h1 hp
    obtain ⟨rfl, hp2⟩ := hp
    refine J_iret C D (by rw [show qs_take s b = qs_between s b by unfold qs_take; rw [if_pos e]]; exact ⟨rfl, hp2⟩) (by omega) (by omega) dX6_take_45
  · refine J_tableIn C (off := 42) 46 (by rw [ht]; omega) (by rw [ht]; omega) (by rw [ht, e]; rfl) (by decide) dX6_take_4 ?_
    first | refine J_aload_n C rfl dX6_take_46 ?_ | refine J_aload_nq C rfl dX6_take_46 ?_ | refine J_aload_nN C rfl dX6_take_46 ?_
    refine J_iload_n C rfl dX6_take_47 ?_
    refine J_callV C (c_Query_takeLetter Y0 (U (by omega)) hb) cw_X6_55 (by first | assumption | exact jv_up_at _ _ _ | (simp [jv_up, *]; done)) rfl rfl rfl rfl (by exact Nat.le_of_ble_eq_true rfl) (by decide) (by omega) (by omega) dX6_take_48 ?_
    intro r h1 hp
    obtain ⟨rfl, hp2⟩ := hp
    refine J_iret C D (by rw [show qs_take s b = qs_let s b by unfold qs_take; rw [if_neg (by omega), if_pos e]]; exact ⟨rfl, hp2⟩) (by omega) (by omega) dX6_take_51
  · refine J_tableIn C (off := 48) 52 (by rw [ht]; omega) (by rw [ht]; omega) (by rw [ht, e]; rfl) (by decide) dX6_take_4 ?_
    first | refine J_aload_n C rfl dX6_take_52 ?_ | refine J_aload_nq C rfl dX6_take_52 ?_ | refine J_aload_nN C rfl dX6_take_52 ?_
    refine J_iload_n C rfl dX6_take_53 ?_
    refine J_callV C (c_Query_takeBehindLetter Y0 (U (by omega)) hb) cw_X6_58 (by first | assumption | exact jv_up_at _ _ _ | (simp [jv_up, *]; done)) rfl rfl rfl rfl (by exact Nat.le_of_ble_eq_true rfl) (by decide) (by omega) (by omega) dX6_take_54 ?_
    intro r h1 hp
    obtain ⟨rfl, hp2⟩ := hp
    refine J_iret C D (by rw [show qs_take s b = qs_behind s b by unfold qs_take; rw [if_neg (by omega), if_neg (by omega), if_pos e]]; exact ⟨rfl, hp2⟩) (by omega) (by omega) dX6_take_57
  · refine J_tableIn C (off := 54) 58 (by rw [ht]; omega) (by rw [ht]; omega) (by rw [ht, e]; rfl) (by decide) dX6_take_4 ?_
    first | refine J_aload_n C rfl dX6_take_58 ?_ | refine J_aload_nq C rfl dX6_take_58 ?_ | refine J_aload_nN C rfl dX6_take_58 ?_
    refine J_iload_n C rfl dX6_take_59 ?_
    refine J_callV C (c_Query_takeBehindStar Y0 (U (by omega)) hb) cw_X6_61 (by first | assumption | exact jv_up_at _ _ _ | (simp [jv_up, *]; done)) rfl rfl rfl rfl (by exact Nat.le_of_ble_eq_true rfl) (by decide) (by omega) (by omega) dX6_take_60 ?_
    intro r h1 hp
    obtain ⟨rfl, hp2⟩ := hp
    refine J_iret C D (by rw [show qs_take s b = qs_star s b by unfold qs_take; rw [if_neg (by omega), if_neg (by omega), if_neg (by omega), if_pos e]]; exact ⟨rfl, hp2⟩) (by omega) (by omega) dX6_take_63
  · refine J_tableIn C (off := 60) 64 (by rw [ht]; omega) (by rw [ht]; omega) (by rw [ht, e]; rfl) (by decide) dX6_take_4 ?_
    first | refine J_aload_n C rfl dX6_take_64 ?_ | refine J_aload_nq C rfl dX6_take_64 ?_ | refine J_aload_nN C rfl dX6_take_64 ?_
    refine J_iload_n C rfl dX6_take_65 ?_
    refine J_callV C (c_Query_takeFigure Y0 (U (by omega)) hb) cw_X6_64 (by first | assumption | exact jv_up_at _ _ _ | (simp [jv_up, *]; done)) rfl rfl rfl rfl (by exact Nat.le_of_ble_eq_true rfl) (by decide) (by omega) (by omega) dX6_take_66 ?_
    intro r h1 hp
    obtain ⟨rfl, hp2⟩ := hp
    refine J_iret C D (by rw [show qs_take s b = qs_fig s b by unfold qs_take; rw [if_neg (by omega), if_neg (by omega), if_neg (by omega), if_neg (by omega), if_pos e]]; exact ⟨rfl, hp2⟩) (by omega) (by omega) dX6_take_69
  · refine J_tableOut C 70 (Or.inr (by rw [ht]; omega)) (by decide) dX6_take_4 ?_
    first | refine J_aload_n C rfl dX6_take_70 ?_ | refine J_aload_nq C rfl dX6_take_70 ?_ | refine J_aload_nN C rfl dX6_take_70 ?_
    refine J_iload_n C rfl dX6_take_71 ?_
    refine J_callV C (c_Query_takeBlank Y0 hb) cw_X6_67 (by first | assumption | exact jv_up_at _ _ _ | (simp [jv_up, *]; done)) rfl rfl rfl rfl (by exact Nat.le_of_ble_eq_true rfl) (by decide) (by omega) (by omega) dX6_take_72 ?_
    intro r h1 hp
    obtain ⟨rfl, hp2⟩ := hp
    refine J_iret C D (by rw [show qs_take s b = qs_blank s b by unfold qs_take; rw [if_neg (by omega), if_neg (by omega), if_neg (by omega), if_neg (by omega), if_neg (by omega)]]; exact ⟨rfl, hp2⟩) (by omega) (by omega) dX6_take_75
set_option maxHeartbeats 400000 in
theorem c_Query_note (Y : qy h a ta tt cur fk fp s) (k p : Nat) (hk : k ≤ 3) (hp : p ≤ 400) : Cn l yX6_note cX6_note 3 none 1 0 0 [.ref a, .int (nI k), .int (nI p)] h (fun r h1 => r = none ∧ h1 = if k = 0 then h else jv_up h a (qyO ta s.1 cur s.2.1 k (nI p))) := by
  have Y0 := Y
  obtain ⟨y1, -⟩ := Y
  refine Cn.of (own := RX6) rfl (by decide) (by exact Nat.le_of_ble_eq_true rfl) (by decide) (fun K hK C D I => ?_)
  refine J_iload_n C rfl dX6_note_0 ?_
  refine J_nif_eq C (by first | omega | (dsimp only; omega)) 14 (by decide) dX6_note_1 (fun z1 => ?_) (fun z1 => ?_)
  · refine J_vret C D ⟨rfl, by rw [if_pos z1]⟩ (by omega) (by omega) dX6_note_14
  · first | refine J_aload_n C rfl dX6_note_4 ?_ | refine J_aload_nq C rfl dX6_note_4 ?_ | refine J_aload_nN C rfl dX6_note_4 ?_
    refine J_iload_n C rfl dX6_note_5 ?_
    refine J_put C fl_X6_22 (by first | assumption | exact jv_up_at _ _ _ | (simp [jv_up, *]; done)) (by exact Nat.le_of_ble_eq_true rfl) (by rfl) (by rfl) dX6_note_6 ?_
    first | refine J_aload_n C rfl dX6_note_9 ?_ | refine J_aload_nq C rfl dX6_note_9 ?_ | refine J_aload_nN C rfl dX6_note_9 ?_
    refine J_iload_n C rfl dX6_note_10 ?_
    refine J_put C fl_X6_26 (by first | assumption | exact jv_up_at _ _ _ | (simp [jv_up, *]; done)) (by exact Nat.le_of_ble_eq_true rfl) (by rfl) (by rfl) dX6_note_11 ?_
    refine J_vret C D ⟨rfl, by rw [if_neg (by omega), jv_up_up]; rfl⟩ (by omega) (by omega) dX6_note_14
end QY2
end
section
def qs_run (B : Nat → Nat) : Nat → Nat → qsT → Nat × Nat × qsT
  | 0, i, s => (0, i, s)
  | m + 1, i, s => if (qs_take s (B i)).1 = 0 then qs_run B m (i + 1) (qs_take s (B i)).2 else ((qs_take s (B i)).1, i, (qs_take s (B i)).2)
def qs_end (n : Nat) (E : Nat × Nat × qsT) : Nat × Nat × qsT := if E.1 = 0 ∧ (E.2.2.2.1 = 1 ∨ E.2.2.2.1 = 4) then (1, n, E.2.2) else E
def qs_fp (E : Nat × Nat × qsT) : Int32 := if E.1 = 0 then -1 else nI E.2.1
def qs_all (B : Nat → Nat) (n : Nat) (tv : Nat → tmT) : Nat × Nat × qsT := qs_end n (qs_run B n 0 (0, 0, tv))
theorem tp_keep {S : Nat → Prop} {h h1 : jH} {t tb n : Nat} {f : Nat → Int32} (T : tp_is h t tb n f) (F : fr S h h1) (h2 : ¬ S t) (h3 : ¬ S tb) : tp_is h1 t tb n f := ⟨(F t h2).trans T.1, (F tb h3).trans T.2.1, T.2.2⟩
theorem qy_tape {h : jH} {a ta : Nat} {tt : Nat → Nat} {cur fk : Nat} {fp : Int32} {s : qsT} (Y : qy h a ta tt cur fk fp s) {t tb n : Nat} {f : Nat → Int32} (T : tp_is h t tb n f) : ¬ qy_S a tt t ∧ ¬ qy_S a tt tb := by
  refine ⟨?_, ?_⟩
  · rintro (z | ⟨i, hi, z⟩)
    · exact jv_neO T.1 Y.1 (by decide) z
    · exact jv_neO T.1 (Y.2.2.1 i hi) (by decide) z
  · rintro (z | ⟨i, hi, z⟩)
    · exact jv_neA Y.1 T.2.1 z.symm
    · exact jv_neA (Y.2.2.1 i hi) T.2.1 z.symm
section QY3
variable {l : jL} {h : jH} {a ta : Nat} {tt : Nat → Nat} {cur fk : Nat} {fp : Int32} {s : qsT} {b : Nat}
set_option maxHeartbeats 400000 in
theorem c_Query_termAt (Y : qy h a ta tt cur fk fp s) (k : Nat) (hk : k < 1000) : Cn l yX6_termAt cX6_termAt 2 (some (.object "RankedSearch$Term")) 1 0 0 [.ref a, .int (nI k)] h (fun r h1 => r = some (va_rf (if k < s.1 then some (tt k) else none)) ∧ h1 = h) := by
  have Y0 := Y
  obtain ⟨y1, ⟨f, y2, y3⟩, y4, y5, y6, y7, y8, y9⟩ := Y
  refine Cn.of (own := RX6) rfl (by decide) (by exact Nat.le_of_ble_eq_true rfl) (by decide) (fun K hK C D I => ?_)
  refine J_iload_n C rfl dX6_termAt_0 ?_
  refine J_nif_lt C (by omega) 30 dX6_termAt_1 (by decide) ?_
  refine J_iload_n C rfl dX6_termAt_4 ?_
  first | refine J_aload_n C rfl dX6_termAt_5 ?_ | refine J_aload_nq C rfl dX6_termAt_5 ?_ | refine J_aload_nN C rfl dX6_termAt_5 ?_
  refine J_get C fl_X6_29 (by first | assumption | exact jv_up_at _ _ _ | (simp [jv_up, *]; done)) (by rfl) dX6_termAt_6 ?_
  refine J_nicmp_ge C (by first | omega | (dsimp only; omega)) (by first | omega | (dsimp only; omega)) 30 (by decide) dX6_termAt_9 (fun z1 => ?_) (fun z1 => ?_)
  · refine J_null C dX6_termAt_30 ?_
    refine J_aret (x := none) C D (Or.inl ⟨_, rfl⟩) ⟨by rw [if_neg (by omega)], rfl⟩ (by omega) (by omega) dX6_termAt_31
  · refine J_iload_n C rfl dX6_termAt_12 ?_
    first | refine J_aload_n C rfl dX6_termAt_13 ?_ | refine J_aload_nq C rfl dX6_termAt_13 ?_ | refine J_aload_nN C rfl dX6_termAt_13 ?_
    refine J_get C fl_X6_11 (by first | assumption | exact jv_up_at _ _ _ | (simp [jv_up, *]; done)) (by rfl) dX6_termAt_14 ?_
    refine J_alen C (by first | assumption | exact jv_up_at _ _ _ | (simp [jv_up, *]; done)) (by decide) dX6_termAt_17 ?_
    refine J_nicmp_ge C (by first | omega | (dsimp only; omega)) (by first | omega | (dsimp only; omega)) 30 (by decide) dX6_termAt_18 (fun z2 => ?_) (fun z2 => ?_)
    · exact absurd z2 (Nat.not_le.mpr (Nat.lt_of_lt_of_le z1 y6))
    · first | refine J_aload_n C rfl dX6_termAt_21 ?_ | refine J_aload_nq C rfl dX6_termAt_21 ?_ | refine J_aload_nN C rfl dX6_termAt_21 ?_
      refine J_get C fl_X6_11 (by first | assumption | exact jv_up_at _ _ _ | (simp [jv_up, *]; done)) (by rfl) dX6_termAt_22 ?_
      refine J_iload_n C rfl dX6_termAt_25 ?_
      refine J_aald C y2 (Or.inr rfl) rfl z2 (by decide) dX6_termAt_26 ?_
      rw [y3 _ z2]
      refine J_goto C 31 (by decide) dX6_termAt_27 ?_
      refine J_aret C D (Or.inl ⟨_, rfl⟩) ⟨by rw [if_pos z1], rfl⟩ (by omega) (by omega) dX6_termAt_31
set_option maxHeartbeats 400000 in
theorem c_Query_read (Y : qy h a ta tt cur fk fp s) {t tb n : Nat} {f : Nat → Int32} (T : tp_is h t tb n f) : Cn l yX6_read cX6_read 3 none 6 0 0 [.ref a, .ref t] h (fun r h1 => r = none ∧ (∃ cur1, qy h1 a ta tt cur1 (qs_all (sp_B f) n s.2.2).1 (qs_fp (qs_all (sp_B f) n s.2.2)) (qs_all (sp_B f) n s.2.2).2.2) ∧ fr (qy_S a tt) h h1) := by
  have hst := qy_tape Y T
  have hn := T.2.2
  refine Cn.of (own := RX6) rfl (by decide) (by exact Nat.le_of_ble_eq_true rfl) (by decide) (fun K hK C D I => ?_)
  have K89 : ∀ (h1 : jH) (i cur1 fk1 : Nat) (fp1 : Int32) (s1 : qsT), qy h1 a ta tt cur1 fk1 fp1 s1 → fr (qy_S a tt) h h1 → fk1 = (qs_all (sp_B f) n s.2.2).1 → fp1 = qs_fp (qs_all (sp_B f) n s.2.2) → s1 = (qs_all (sp_B f) n s.2.2).2.2 → J K 0 0 89 (jv_l [(0, .ref a), (1, .ref t), (2, .int (nI i))]) [] h1 := by
    intro h1 i cur1 fk1 fp1 s1 Y1 F1 e1 e2 e3
    refine J_vret C D ⟨rfl, ⟨cur1, by rw [← e1, ← e2, ← e3]; exact Y1⟩, F1⟩ (by omega) (by omega) dX6_read_89
  have K57 : ∀ (h1 : jH) (i cur1 fk1 : Nat) (fp1 : Int32) (s1 : qsT) (pl : Nat), i ≤ n → qy h1 a ta tt cur1 fk1 fp1 s1 → fr (qy_S a tt) h h1 → fp1 = qs_fp (fk1, pl, s1) → qs_all (sp_B f) n s.2.2 = qs_end n (fk1, pl, s1) → J K 0 0 57 (jv_l [(0, .ref a), (1, .ref t), (2, .int (nI i))]) [] h1 := by
    intro h1 i cur1 fk1 fp1 s1 pl hi Y1 F1 e1 e2
    have y := Y1.1
    have w1 := Y1.2.2.2.2.2.2.2
    have w2 := Y1.2.2.2.2.2.1
    have T1 := tp_keep T F1 hst.1 hst.2
    have T1a := T1.1
    have last : (s1.2.1 = 1 ∨ s1.2.1 = 4) → fk1 = 0 → J K 0 0 80 (jv_l [(0, .ref a), (1, .ref t), (2, .int (nI i))]) [] h1 := by
      intro hs hz
      first | refine J_aload_n C rfl dX6_read_80 ?_ | refine J_aload_nq C rfl dX6_read_80 ?_ | refine J_aload_nN C rfl dX6_read_80 ?_
      refine J_iconst C (v := nI 1) (by decide) dX6_read_81 ?_
      first | refine J_aload_n C rfl dX6_read_82 ?_ | refine J_aload_nq C rfl dX6_read_82 ?_ | refine J_aload_nN C rfl dX6_read_82 ?_
      refine J_callV C (c_Tape_length _ _ t tb n f T1) cw_X6_35 (by first | assumption | exact jv_up_at _ _ _ | (simp [jv_up, *]; done)) rfl rfl rfl rfl (by exact Nat.le_of_ble_eq_true rfl) (by decide) (by omega) (by omega) dX6_read_83 ?_
      rintro _ _ ⟨rfl, rfl⟩
      refine J_callV C (c_Query_note Y1 1 n (by decide) hn) cw_X6_48 (by first | assumption | exact jv_up_at _ _ _ | (simp [jv_up, *]; done)) rfl rfl rfl rfl (by exact Nat.le_of_ble_eq_true rfl) (by decide) (by omega) (by omega) dX6_read_86 ?_
      rintro _ _ ⟨rfl, rfl⟩
      rw [if_neg (by decide)]
      have e3 : qs_all (sp_B f) n s.2.2 = (1, n, s1) := by rw [e2]; unfold qs_end; rw [if_pos ⟨hz, hs⟩]
      exact K89 _ i cur1 1 (nI n) s1 (qy_a Y1 Y1.2.2.2.2.1 w2 (by decide)) (fr_tr F1 (fr_up (Or.inl rfl))) (by rw [e3]) (by rw [e3]; rfl) (by rw [e3])
    have ok : fk1 ≠ 0 ∨ (s1.2.1 ≠ 1 ∧ s1.2.1 ≠ 4) → qs_all (sp_B f) n s.2.2 = (fk1, pl, s1) := by
      intro hz
      rw [e2]; unfold qs_end; rw [if_neg]
      rintro ⟨q1, q2⟩
      have q1 : fk1 = 0 := q1
      have q2 : s1.2.1 = 1 ∨ s1.2.1 = 4 := q2
      omega
    first | refine J_aload_n C rfl dX6_read_57 ?_ | refine J_aload_nq C rfl dX6_read_57 ?_ | refine J_aload_nN C rfl dX6_read_57 ?_
    refine J_get C fl_X6_22 (by first | assumption | exact jv_up_at _ _ _ | (simp [jv_up, *]; done)) (by rfl) dX6_read_58 ?_
    refine J_nif_ne C (by first | omega | (dsimp only; omega)) 89 (by decide) dX6_read_61 (fun z1 => ?_) (fun z1 => ?_)
    · have e3 := ok (Or.inl (by omega))
      exact K89 _ i cur1 fk1 fp1 s1 Y1 F1 (by rw [e3]) (by rw [e3]; exact e1) (by rw [e3])
    · first | refine J_aload_n C rfl dX6_read_64 ?_ | refine J_aload_nq C rfl dX6_read_64 ?_ | refine J_aload_nN C rfl dX6_read_64 ?_
      refine J_get C fl_X6_32 (by first | assumption | exact jv_up_at _ _ _ | (simp [jv_up, *]; done)) (by rfl) dX6_read_65 ?_
      refine J_iconst C (v := nI 1) (by decide) dX6_read_68 ?_
      refine J_nicmp_eq C (by first | omega | (dsimp only; omega)) (by first | omega | (dsimp only; omega)) 80 (by decide) dX6_read_69 (fun z2 => ?_) (fun z2 => ?_)
      · exact last (Or.inl z2) z1
      · first | refine J_aload_n C rfl dX6_read_72 ?_ | refine J_aload_nq C rfl dX6_read_72 ?_ | refine J_aload_nN C rfl dX6_read_72 ?_
        refine J_get C fl_X6_32 (by first | assumption | exact jv_up_at _ _ _ | (simp [jv_up, *]; done)) (by rfl) dX6_read_73 ?_
        refine J_iconst C (v := nI 4) (by decide) dX6_read_76 ?_
        refine J_nicmp_ne C (by first | omega | (dsimp only; omega)) (by first | omega | (dsimp only; omega)) 89 (by decide) dX6_read_77 (fun z3 => ?_) (fun z3 => ?_)
        · have e3 := ok (Or.inr ⟨z2, z3⟩)
          exact K89 _ i cur1 fk1 fp1 s1 Y1 F1 (by rw [e3]) (by rw [e3]; exact e1) (by rw [e3])
        · exact last (Or.inr z3) z1
  have loop : ∀ (m i : Nat) (h1 : jH) (cur1 fk1 : Nat) (fp1 : Int32) (s1 : qsT) (pl : Nat), i + m = n → qy h1 a ta tt cur1 fk1 fp1 s1 → fr (qy_S a tt) h h1 → (fk1 = 0 → s1.2.1 ≠ 0 → qy_cur tt cur1 s1) → fp1 = qs_fp (fk1, pl, s1) → qs_all (sp_B f) n s.2.2 = qs_end n (if fk1 = 0 then qs_run (sp_B f) m i s1 else (fk1, pl, s1)) → J K 0 0 22 (jv_l [(0, .ref a), (1, .ref t), (2, .int (nI i))]) [] h1 := by
    intro m
    induction m with
    | zero =>
      intro i h1 cur1 fk1 fp1 s1 pl hi Y1 F1 U1 e1 e2
      have T1 := tp_keep T F1 hst.1 hst.2
      have T1a := T1.1
      refine J_iload_n C rfl dX6_read_22 ?_
      first | refine J_aload_n C rfl dX6_read_23 ?_ | refine J_aload_nq C rfl dX6_read_23 ?_ | refine J_aload_nN C rfl dX6_read_23 ?_
      refine J_callV C (c_Tape_length _ _ t tb n f T1) cw_X6_35 (by first | assumption | exact jv_up_at _ _ _ | (simp [jv_up, *]; done)) rfl rfl rfl rfl (by exact Nat.le_of_ble_eq_true rfl) (by decide) (by omega) (by omega) dX6_read_24 ?_
      rintro _ _ ⟨rfl, rfl⟩
      refine J_nicmp_ge C (by first | omega | (dsimp only; omega)) (by first | omega | (dsimp only; omega)) 57 (by decide) dX6_read_27 (fun z1 => ?_) (fun z1 => ?_)
      · refine K57 _ i cur1 fk1 fp1 s1 (if fk1 = 0 then i else pl) (by omega) Y1 F1 ?_ ?_
        · rw [e1]; unfold qs_fp; by_cases q : fk1 = 0
          · rw [if_pos q, if_pos q]
          · rw [if_neg q, if_neg q, if_neg q]
        · rw [e2]; by_cases q : fk1 = 0
          · rw [if_pos q, if_pos q, q]; rfl
          · rw [if_neg q, if_neg q]
      · omega
    | succ m ih =>
      intro i h1 cur1 fk1 fp1 s1 pl hi Y1 F1 U1 e1 e2
      have T1 := tp_keep T F1 hst.1 hst.2
      have T1a := T1.1
      have y := Y1.1
      have w1 := Y1.2.2.2.2.2.2.2
      refine J_iload_n C rfl dX6_read_22 ?_
      first | refine J_aload_n C rfl dX6_read_23 ?_ | refine J_aload_nq C rfl dX6_read_23 ?_ | refine J_aload_nN C rfl dX6_read_23 ?_
      refine J_callV C (c_Tape_length _ _ t tb n f T1) cw_X6_35 (by first | assumption | exact jv_up_at _ _ _ | (simp [jv_up, *]; done)) rfl rfl rfl rfl (by exact Nat.le_of_ble_eq_true rfl) (by decide) (by omega) (by omega) dX6_read_24 ?_
      rintro _ _ ⟨rfl, rfl⟩
      refine J_nicmp_ge C (by first | omega | (dsimp only; omega)) (by first | omega | (dsimp only; omega)) 57 (by decide) dX6_read_27 (fun z1 => ?_) (fun z1 => ?_)
      · omega
      · first | refine J_aload_n C rfl dX6_read_30 ?_ | refine J_aload_nq C rfl dX6_read_30 ?_ | refine J_aload_nN C rfl dX6_read_30 ?_
        refine J_get C fl_X6_22 (by first | assumption | exact jv_up_at _ _ _ | (simp [jv_up, *]; done)) (by rfl) dX6_read_31 ?_
        refine J_nif_ne C (by first | omega | (dsimp only; omega)) 57 (by decide) dX6_read_34 (fun z2 => ?_) (fun z2 => ?_)
        · refine K57 _ i cur1 fk1 fp1 s1 pl (by omega) Y1 F1 e1 ?_
          rw [e2, if_neg (by omega)]
        · rw [if_pos z2] at e2
          first | refine J_aload_n C rfl dX6_read_37 ?_ | refine J_aload_nq C rfl dX6_read_37 ?_ | refine J_aload_nN C rfl dX6_read_37 ?_
          first | refine J_aload_n C rfl dX6_read_38 ?_ | refine J_aload_nq C rfl dX6_read_38 ?_ | refine J_aload_nN C rfl dX6_read_38 ?_
          first | refine J_aload_n C rfl dX6_read_39 ?_ | refine J_aload_nq C rfl dX6_read_39 ?_ | refine J_aload_nN C rfl dX6_read_39 ?_
          refine J_iload_n C rfl dX6_read_40 ?_
          refine J_callV C (c_Tape_byteAt _ _ t tb n f T1 i z1) cw_X6_41 (by first | assumption | exact jv_up_at _ _ _ | (simp [jv_up, *]; done)) rfl rfl rfl rfl (by exact Nat.le_of_ble_eq_true rfl) (by decide) (by omega) (by omega) dX6_read_41 ?_
          rintro _ _ ⟨rfl, rfl⟩
          refine J_callV C (c_Query_take Y1 (U1 z2) (sp_B_lt f i)) cw_X6_45 (by first | assumption | exact jv_up_at _ _ _ | (simp [jv_up, *]; done)) rfl rfl rfl rfl (by exact Nat.le_of_ble_eq_true rfl) (by decide) (by omega) (by omega) dX6_read_44 ?_
          intro r h2 hp
          obtain ⟨rfl, hq, ⟨cur2, Y2, U2⟩, F2⟩ := hp
          have Y2a := Y2.1
          refine J_iload_n C rfl dX6_read_47 ?_
          refine J_callV C (c_Query_note Y2 (qs_take s1 (sp_B f i)).1 i hq (by omega)) cw_X6_48 (by first | assumption | exact jv_up_at _ _ _ | (simp [jv_up, *]; done)) rfl rfl rfl rfl (by exact Nat.le_of_ble_eq_true rfl) (by decide) (by omega) (by omega) dX6_read_48 ?_
          rintro _ _ ⟨rfl, rfl⟩
          first | refine J_niinc (b := 1) C rfl (by decide) dX6_read_51 ?_ | refine J_iinc C rfl (by decide) dX6_read_51 ?_
          refine J_goto C 22 (by decide) dX6_read_54 ?_
          unfold qs_run at e2
          by_cases q : (qs_take s1 (sp_B f i)).1 = 0
          · rw [if_pos q] at e2 ⊢
            refine J_sub (by exact (And.intro rfl (And.intro rfl (And.intro rfl trivial)))) (ih (i + 1) _ cur2 fk1 fp1 _ pl (by omega) Y2 (fr_tr F1 F2) (fun _ => U2 q) (by rw [e1]; unfold qs_fp; simp [z2]) (by rw [if_pos z2]; exact e2))
          · rw [if_neg q] at e2 ⊢
            refine J_sub (by exact (And.intro rfl (And.intro rfl (And.intro rfl trivial)))) (ih (i + 1) _ cur2 (qs_take s1 (sp_B f i)).1 (nI i) _ i (by omega) (qy_a Y2 Y2.2.2.2.2.1 Y2.2.2.2.2.2.1 hq) (fr_tr (fr_tr F1 F2) (fr_up (Or.inl rfl))) (fun w => absurd w q) (by unfold qs_fp; rw [if_neg q]) (by rw [if_neg q]; exact e2))
  have Y0 := Y
  obtain ⟨y1, -⟩ := Y
  first | refine J_aload_n C rfl dX6_read_0 ?_ | refine J_aload_nq C rfl dX6_read_0 ?_ | refine J_aload_nN C rfl dX6_read_0 ?_
  refine J_iconst C (v := nI 0) (by decide) dX6_read_1 ?_
  refine J_put C fl_X6_29 (by first | assumption | exact jv_up_at _ _ _ | (simp [jv_up, *]; done)) (by exact Nat.le_of_ble_eq_true rfl) (by rfl) (by rfl) dX6_read_2 ?_
  first | refine J_aload_n C rfl dX6_read_5 ?_ | refine J_aload_nq C rfl dX6_read_5 ?_ | refine J_aload_nN C rfl dX6_read_5 ?_
  refine J_iconst C (v := nI 0) (by decide) dX6_read_6 ?_
  refine J_put C fl_X6_32 (by first | assumption | exact jv_up_at _ _ _ | (simp [jv_up, *]; done)) (by exact Nat.le_of_ble_eq_true rfl) (by rfl) (by rfl) dX6_read_7 ?_
  first | refine J_aload_n C rfl dX6_read_10 ?_ | refine J_aload_nq C rfl dX6_read_10 ?_ | refine J_aload_nN C rfl dX6_read_10 ?_
  refine J_iconst C (v := nI 0) (by decide) dX6_read_11 ?_
  refine J_put C fl_X6_22 (by first | assumption | exact jv_up_at _ _ _ | (simp [jv_up, *]; done)) (by exact Nat.le_of_ble_eq_true rfl) (by rfl) (by rfl) dX6_read_12 ?_
  first | refine J_aload_n C rfl dX6_read_15 ?_ | refine J_aload_nq C rfl dX6_read_15 ?_ | refine J_aload_nN C rfl dX6_read_15 ?_
  refine J_iconst C (v := (-1)) (by decide) dX6_read_16 ?_
  refine J_put C fl_X6_26 (by first | assumption | exact jv_up_at _ _ _ | (simp [jv_up, *]; done)) (by exact Nat.le_of_ble_eq_true rfl) (by rfl) (by rfl) dX6_read_17 ?_
  refine J_iconst C (v := nI 0) (by decide) dX6_read_20 ?_
  refine J_istore_n C (by decide) dX6_read_21 ?_
  simp only [jv_up_up]
  refine J_sub (by exact (And.intro rfl (And.intro rfl (And.intro rfl trivial)))) (loop n 0 _ cur 0 (-1) (0, 0, s.2.2) 0 (by omega) (qy_a Y0 (by decide) (by decide) (by decide)) (fr_up (Or.inl rfl)) (fun _ w => absurd rfl w) rfl rfl)
end QY3
end
section
abbrev tmZ : tmT := (false, false, false, lN 0, 0, 0)
/-- new cells and one of its own -/
def fn (a : Nat) (h : jH) : Nat → Prop := fun x => x = a ∨ h x = none
set_option maxHeartbeats 400000 in
theorem c_Query_init (l : jL) (h : jH) (a : Nat) (hh : h a = some (.inr (5, [.null, .int 0, .null, .int 0, .int 0, .int 0]))) : Cn l yX6_init cX6_init 2 none 2 18 118 [.ref a] h (fun r h1 => r = none ∧ (∃ ta tt cur, qy h1 a ta tt cur 0 (-1) (0, 0, fun _ => tmZ) ∧ h ta = none ∧ ∀ i, i < 16 → h (tt i) = none) ∧ fr (fn a h) h h1) := by
  refine Cn.of (own := RX6) rfl (by decide) (by exact Nat.le_of_ble_eq_true rfl) (by decide) (fun K hK C D I => ?_)
  first | refine J_aload_n C rfl dX6_init_0 ?_ | refine J_aload_nq C rfl dX6_init_0 ?_ | refine J_aload_nN C rfl dX6_init_0 ?_
  refine J_objInit C ml_X6_3 oi_inst oi_code (by decide) (by exact Nat.le_of_ble_eq_true rfl) dX6_init_1 ?_
  first | refine J_aload_n C rfl dX6_init_4 ?_ | refine J_aload_nq C rfl dX6_init_4 ?_ | refine J_aload_nN C rfl dX6_init_4 ?_
  refine J_bipush C (v := nI 16) (by decide) dX6_init_5 ?_
  refine J_newq C 5 (CC := "RankedSearch$Term") (fun _ => rfl) wc_X6_9 ao_Term (N := 16) rfl (by decide) (by omega) (by omega) dX6_init_7 (fun ta hta => ?_)
  have nta : a ≠ ta := fun z => by rw [z, hta] at hh; cases hh
  have hh1 := jv_up_of (x := .inl (5, 16, .inr (.inr (.inr (.inr (fun _ => none)))))) nta hh
  refine J_putF C I fl_X6_11 rfl rfl (by first | assumption | exact jv_up_at _ _ _ | (simp [jv_up, *]; done)) (by exact Nat.le_of_ble_eq_true rfl) (by first | rfl | exact jv_nar_a _ _) (by first | rfl | exact jv_fit_a _ _) fw_X6_11 dX6_init_10 ?_
  first | refine J_aload_n C rfl dX6_init_13 ?_ | refine J_aload_nq C rfl dX6_init_13 ?_ | refine J_aload_nN C rfl dX6_init_13 ?_
  refine J_new C nw_X6_9 (by omega) (by omega) dX6_init_14 (fun cur hcur => ?_)
  have ncur : cur ≠ a := fun z => by rw [z, jv_up_at] at hcur; cases hcur
  have ncur2 : cur ≠ ta := fun z => by rw [z, jv_up_ne nta.symm, jv_up_at] at hcur; cases hcur
  have hcur0 : h cur = none := by rw [jv_up_ne ncur, jv_up_ne ncur2] at hcur; exact hcur
  refine J_dup C rfl dX6_init_17 ?_
  refine J_callI C (c_Term_init _ _ cur) cw_X6_17 rfl rfl (by exact Nat.le_of_ble_eq_true rfl) (by decide) (by omega) (by omega) dX6_init_18 ?_
  rintro _ _ ⟨rfl, rfl⟩
  refine J_put C fl_X6_18 (by first | exact jv_up_at _ _ _ | (rw [jv_up_ne ncur.symm]; exact jv_up_at _ _ _)) (by exact Nat.le_of_ble_eq_true rfl) (by first | rfl | exact jv_nar_o _ _) (by first | rfl | exact jv_fit_o _ _) dX6_init_21 ?_
  first | refine J_aload_n C rfl dX6_init_24 ?_ | refine J_aload_nq C rfl dX6_init_24 ?_ | refine J_aload_nN C rfl dX6_init_24 ?_
  refine J_iconst C (v := nI 0) (by decide) dX6_init_25 ?_
  refine J_put C fl_X6_22 (by first | exact jv_up_at _ _ _ | (rw [jv_up_ne ncur.symm]; exact jv_up_at _ _ _)) (by exact Nat.le_of_ble_eq_true rfl) (by rfl) (by rfl) dX6_init_26 ?_
  first | refine J_aload_n C rfl dX6_init_29 ?_ | refine J_aload_nq C rfl dX6_init_29 ?_ | refine J_aload_nN C rfl dX6_init_29 ?_
  refine J_iconst C (v := (-1)) (by decide) dX6_init_30 ?_
  refine J_put C fl_X6_26 (by first | exact jv_up_at _ _ _ | (rw [jv_up_ne ncur.symm]; exact jv_up_at _ _ _)) (by exact Nat.le_of_ble_eq_true rfl) (by rfl) (by rfl) dX6_init_31 ?_
  refine J_iconst C (v := nI 0) (by decide) dX6_init_34 ?_
  refine J_istore_n C (by decide) dX6_init_35 ?_
  have base : ∀ x, h x ≠ none → x ≠ a → x ≠ ta ∧ x ≠ cur := fun x hx _ => ⟨fun z => hx (by rw [z]; exact hta), fun z => hx (by rw [z]; exact hcur0)⟩
  have loop : ∀ (m i : Nat) (h1 : jH) (f : Nat → Option Nat) (tt : Nat → Nat), i + m = 16 → h1 a = some (qyO ta 0 cur 0 0 (-1)) → h1 ta = some (.inl (5, 16, .inr (.inr (.inr (.inr f))))) → (∀ j, j < i → f j = some (tt j)) → (∀ j, j < i → h1 (tt j) = some (tm tmZ)) → (∀ j k, j < i → k < i → tt j = tt k → j = k) → (∀ j, j < i → h (tt j) = none) → (fr (fn a h) h h1) → J K (2 + i) (22 + 6 * i) 36 (jv_l [(0, .ref a), (1, .int (nI i))]) [] h1 := by
    intro m
    induction m with
    | zero =>
      intro i h1 f tt hi y1 y2 y3 y4 y5 y6 y7
      have hi : i = 16 := hi
      subst hi
      refine J_iload_n C rfl dX6_init_36 ?_
      first | refine J_aload_n C rfl dX6_init_37 ?_ | refine J_aload_nq C rfl dX6_init_37 ?_ | refine J_aload_nN C rfl dX6_init_37 ?_
      refine J_get C fl_X6_11 (by first | assumption | exact jv_up_at _ _ _ | (simp [jv_up, *]; done)) (by rfl) dX6_init_38 ?_
      refine J_alen C (by first | assumption | exact jv_up_at _ _ _ | (simp [jv_up, *]; done)) (by decide) dX6_init_41 ?_
      refine J_nicmp_ge C (by first | omega | (dsimp only; omega)) (by first | omega | (dsimp only; omega)) 64 (by decide) dX6_init_42 (fun z1 => ?_) (fun z1 => ?_)
      · refine J_vret C D ⟨rfl, ⟨ta, tt, cur, ⟨y1, ⟨f, y2, y3⟩, y4, y5, by decide, by decide, fun _ _ => Nat.zero_le _, by decide⟩, hta, y6⟩, y7⟩ (by omega) (by omega) dX6_init_64
      · exact absurd z1 (Nat.lt_irrefl 16)
    | succ m ih =>
      intro i h1 f tt hi y1 y2 y3 y4 y5 y6 y7
      refine J_iload_n C rfl dX6_init_36 ?_
      first | refine J_aload_n C rfl dX6_init_37 ?_ | refine J_aload_nq C rfl dX6_init_37 ?_ | refine J_aload_nN C rfl dX6_init_37 ?_
      refine J_get C fl_X6_11 (by first | assumption | exact jv_up_at _ _ _ | (simp [jv_up, *]; done)) (by rfl) dX6_init_38 ?_
      refine J_alen C (by first | assumption | exact jv_up_at _ _ _ | (simp [jv_up, *]; done)) (by decide) dX6_init_41 ?_
      refine J_nicmp_ge C (by first | omega | (dsimp only; omega)) (by first | omega | (dsimp only; omega)) 64 (by decide) dX6_init_42 (fun z1 => ?_) (fun z1 => ?_)
      · exact absurd z1 (by show ¬ 16 ≤ i; omega)
      · first | refine J_aload_n C rfl dX6_init_45 ?_ | refine J_aload_nq C rfl dX6_init_45 ?_ | refine J_aload_nN C rfl dX6_init_45 ?_
        refine J_get C fl_X6_11 (by first | assumption | exact jv_up_at _ _ _ | (simp [jv_up, *]; done)) (by rfl) dX6_init_46 ?_
        refine J_iload_n C rfl dX6_init_49 ?_
        refine J_new C nw_X6_9 (by omega) (by omega) dX6_init_50 (fun q hq => ?_)
        have nq : ∀ {x : Nat} {e : jE}, h1 x = some e → x ≠ q := fun hx z => by rw [z, hq] at hx; cases hx
        have hq0 : h q = none := by
          by_cases w : h q = none
          · exact w
          · have := y7 q (fun z => z.elim (fun z => nq y1 z.symm) w)
            rw [hq] at this
            exact this.symm
        refine J_dup C rfl dX6_init_53 ?_
        refine J_callI C (c_Term_init _ _ q) cw_X6_17 rfl rfl (by exact Nat.le_of_ble_eq_true rfl) (by decide) (by omega) (by omega) dX6_init_54 ?_
        rintro _ _ ⟨rfl, rfl⟩
        refine J_aastT C (jv_up_of (nq y2) y2) (jv_up_at _ _ _) rfl (by omega) (by decide) dX6_init_57 ?_
        first | refine J_niinc (b := 1) C rfl (by decide) dX6_init_58 ?_ | refine J_iinc C rfl (by decide) dX6_init_58 ?_
        refine J_goto C 36 (by decide) dX6_init_61 ?_
        have y1' : jv_up (jv_up h1 q (tm tmZ)) ta (.inl (5, 16, .inr (.inr (.inr (.inr (va_up f i (some q))))))) a = some (qyO ta 0 cur 0 0 (-1)) := jv_up_of nta (jv_up_of (nq y1) y1)
        refine J_widen (c1 := 2 + (i + 1)) (s1 := 22 + 6 * (i + 1)) (by omega) (by omega) ?_
        have vi : ∀ j, j < i → va_up tt i q j = tt j := fun j hj => if_neg (by omega)
        have vq : va_up tt i q i = q := if_pos rfl
        refine J_sub (by exact (And.intro rfl (And.intro rfl trivial))) (ih (i + 1) _ (va_up f i (some q)) (va_up tt i q) (by omega) y1' (jv_up_at _ _ _) (fun j hj => ?_) (fun j hj => ?_) (fun j k hj hk => ?_) (fun j hj => ?_) ?_)
        · by_cases w : j = i
          · subst w; rw [vq]; exact if_pos rfl
          · rw [vi j (by omega)]; exact (if_neg w).trans (y3 j (by omega))
        · by_cases w : j = i
          · subst w; rw [vq]; exact jv_up_of (nq y2).symm (jv_up_at _ _ _)
          · have w2 := y4 j (by omega)
            rw [vi j (by omega)]; exact jv_up_of (fun z => by rw [z, y2] at w2; cases w2) (jv_up_of (nq w2) w2)
        · by_cases w : j = i
          · by_cases w2 : k = i
            · intro _; omega
            · have w3 := y4 k (by omega)
              rw [w, vq, vi k (by omega)]; intro z; exact absurd z.symm (nq w3)
          · have w3 := y4 j (by omega)
            by_cases w2 : k = i
            · rw [w2, vq, vi j (by omega)]; intro z; exact absurd z (nq w3)
            · rw [vi j (by omega), vi k (by omega)]; exact y5 j k (by omega) (by omega)
        · by_cases w : j = i
          · subst w; rw [vq]; exact hq0
          · rw [vi j (by omega)]; exact y6 j (by omega)
        · exact fr_tr y7 (fr_tr (fr_up (Or.inr hq0)) (fr_up (Or.inr hta)))
  simp only [List.set, jv_up_up]
  refine J_sub (by exact (And.intro rfl (And.intro rfl trivial))) (loop 16 0 _ (fun _ => none) (fun _ => 0) rfl (jv_up_at _ _ _) ?_ (fun _ z => absurd z (Nat.not_lt_zero _)) (fun _ z => absurd z (Nat.not_lt_zero _)) (fun _ _ z => absurd z (Nat.not_lt_zero _)) (fun _ z => absurd z (Nat.not_lt_zero _)) ?_)
  · exact jv_up_of nta.symm (jv_up_of ncur2.symm (jv_up_of nta.symm (jv_up_at _ _ _)))
  · exact fr_tr (fr_tr (fr_tr (fr_up (Or.inr hta)) (fr_up (Or.inl rfl))) (fr_up (Or.inr hcur0))) (fr_up (Or.inl rfl))
end
section
/-! Math.min, Math.max; Best: the k best hits in order, as a list -/
abbrev hiT : Type := Nat × Int32
/-- x goes before y -/
def hi_bt (x y : hiT) : Bool := decide (y.2 < x.2) || (decide (x.2 = y.2) && decide (x.1 < y.1))
abbrev bsO (an ap limit c : Nat) : jE := .inr (0, [.ref an, .ref ap, .int (nI limit), .int (nI c)])
/-- the cells of a Best with rows fN, fP -/
def bsF (h : jH) (a an ap limit c : Nat) (fN fP : Nat → Int32) : Prop := h a = some (bsO an ap limit c) ∧ h an = some (.inl (0, 50, .inl fN)) ∧ h ap = some (.inl (0, 50, .inl fP)) ∧ an ≠ ap ∧ c ≤ limit ∧ limit ≤ 50
def bs (h : jH) (a an ap limit : Nat) (L : List hiT) : Prop := ∃ fN fP, bsF h a an ap limit L.length fN fP ∧ ∀ i x, L[i]? = some x → fN i = nI x.1 ∧ fP i = x.2 ∧ x.1 < 10000
def bs_S (a an ap : Nat) : Nat → Prop := fun x => x = a ∨ x = an ∨ x = ap
section BEST
variable {l : jL} {h : jH} {a an ap limit c : Nat} {fN fP : Nat → Int32}
set_option maxHeartbeats 400000 in
theorem c_Best_init (hh : h a = some (.inr (0, [.null, .null, .int 0, .int 0]))) : Cn l yX0_init cX0_init 1 none 1 2 100 [.ref a] h (fun r h1 => r = none ∧ (∃ an ap, bs h1 a an ap 0 [] ∧ h an = none ∧ h ap = none) ∧ fr (fn a h) h h1) := by
  refine Cn.of (own := RX0) rfl (by decide) (by exact Nat.le_of_ble_eq_true rfl) (by decide) (fun K hK C D I => ?_)
  first | refine J_aload_n C rfl dX0_init_0 ?_ | refine J_aload_nq C rfl dX0_init_0 ?_ | refine J_aload_nN C rfl dX0_init_0 ?_
  refine J_objInit C ml_X0_3 oi_inst oi_code (by decide) (by exact Nat.le_of_ble_eq_true rfl) dX0_init_1 ?_
  first | refine J_aload_n C rfl dX0_init_4 ?_ | refine J_aload_nq C rfl dX0_init_4 ?_ | refine J_aload_nN C rfl dX0_init_4 ?_
  refine J_bipush C (v := nI 50) (by decide) dX0_init_5 ?_
  refine J_newI C ac_int (N := 50) rfl (by decide) (by decide) (by omega) (by omega) dX0_init_7 (fun an han => ?_)
  have n1 : a ≠ an := fun z => by rw [z, han] at hh; cases hh
  have hh1 := jv_up_of (x := .inl (0, 50, .inl (fun _ => 0))) n1 hh
  refine J_putF C I fl_X0_9 rfl rfl (by first | assumption | exact jv_up_at _ _ _ | (simp [jv_up, *]; done)) (by exact Nat.le_of_ble_eq_true rfl) (by first | rfl | exact jv_nar_a _ _) (by first | rfl | exact jv_fit_a _ _) fw_X0_9 dX0_init_9 ?_
  first | refine J_aload_n C rfl dX0_init_12 ?_ | refine J_aload_nq C rfl dX0_init_12 ?_ | refine J_aload_nN C rfl dX0_init_12 ?_
  refine J_bipush C (v := nI 50) (by decide) dX0_init_13 ?_
  refine J_newI C ac_int (N := 50) rfl (by decide) (by decide) (by omega) (by omega) dX0_init_15 (fun ap hap => ?_)
  have n2 : ap ≠ a := fun z => by rw [z, jv_up_at] at hap; cases hap
  have n3 : ap ≠ an := fun z => by rw [z, jv_up_ne n1.symm, jv_up_at] at hap; cases hap
  have hap0 : h ap = none := by rw [jv_up_ne n2, jv_up_ne n3] at hap; exact hap
  refine J_putF C I fl_X0_15 rfl rfl (by rw [jv_up_ne n2.symm]; exact jv_up_at _ _ _) (by exact Nat.le_of_ble_eq_true rfl) (by first | rfl | exact jv_nar_a _ _) (by first | rfl | exact jv_fit_a _ _) fw_X0_15 dX0_init_17 ?_
  refine J_vret C D ⟨rfl, ⟨an, ap, ⟨fun _ => 0, fun _ => 0, ⟨jv_up_at _ _ _, jv_up_of n1.symm (jv_up_of n3.symm (jv_up_of n1.symm (jv_up_at _ _ _))), jv_up_of n2 (jv_up_at _ _ _), n3.symm, Nat.le_refl _, Nat.zero_le _⟩, fun i x hx => by cases hx⟩, han, hap0⟩, fr_tr (fr_tr (fr_tr (fr_up (Or.inr han)) (fr_up (Or.inl rfl))) (fr_up (Or.inr hap0))) (fr_up (Or.inl rfl))⟩ (by omega) (by omega) dX0_init_20
theorem bsF_ne (B : bsF h a an ap limit c fN fP) : an ≠ a ∧ ap ≠ a := ⟨(jv_neA B.1 B.2.1).symm, (jv_neA B.1 B.2.2.1).symm⟩
set_option maxHeartbeats 400000 in
theorem c_Best_start (L : List hiT) (B : bs h a an ap limit L) (k : Nat) (hk : 1 ≤ k ∧ k ≤ 50) : Cn l yX0_start cX0_start 2 none 2 0 0 [.ref a, .int (nI k)] h (fun r h1 => r = none ∧ bs h1 a an ap k [] ∧ fr (bs_S a an ap) h h1) := by
  obtain ⟨fN, fP, B1, B2⟩ := B
  have n := bsF_ne B1
  obtain ⟨b1, b2, b3, b4, b5, b6⟩ := B1
  refine Cn.of (own := RX0) rfl (by decide) (by exact Nat.le_of_ble_eq_true rfl) (by decide) (fun K hK C D I => ?_)
  first | refine J_aload_n C rfl dX0_start_0 ?_ | refine J_aload_nq C rfl dX0_start_0 ?_ | refine J_aload_nN C rfl dX0_start_0 ?_
  refine J_iconst C (v := nI 0) (by decide) dX0_start_1 ?_
  refine J_iload_n C rfl dX0_start_2 ?_
  refine J_bipush C (v := nI 50) (by decide) dX0_start_3 ?_
  refine J_mmin C cw_X0_18 (by omega) (by decide) (by decide) (by exact Nat.le_of_ble_eq_true rfl) (by omega) (by omega) dX0_start_5 ?_
  refine J_mmax C cw_X0_24 (by decide) (by omega) (by decide) (by exact Nat.le_of_ble_eq_true rfl) (by omega) (by omega) dX0_start_8 ?_
  refine J_put C fl_X0_27 (by first | assumption | exact jv_up_at _ _ _ | (simp [jv_up, *]; done)) (by exact Nat.le_of_ble_eq_true rfl) (by rfl) (by rfl) dX0_start_11 ?_
  first | refine J_aload_n C rfl dX0_start_14 ?_ | refine J_aload_nq C rfl dX0_start_14 ?_ | refine J_aload_nN C rfl dX0_start_14 ?_
  refine J_iconst C (v := nI 0) (by decide) dX0_start_15 ?_
  refine J_put C fl_X0_31 (by first | assumption | exact jv_up_at _ _ _ | (simp [jv_up, *]; done)) (by exact Nat.le_of_ble_eq_true rfl) (by rfl) (by rfl) dX0_start_16 ?_
  rw [jv_up_up, show max 0 (min k 50) = k by omega]
  refine J_vret C D ⟨rfl, ⟨fN, fP, ⟨jv_up_at _ _ _, jv_up_of n.1 b2, jv_up_of n.2 b3, b4, Nat.zero_le _, hk.2⟩, fun i x hx => by cases hx⟩, fr_up (Or.inl rfl)⟩ (by omega) (by omega) dX0_start_19
set_option maxHeartbeats 400000 in
theorem c_Best_has (B : bsF h a an ap limit c fN fP) (x : Int32) : Cn l yX0_has cX0_has 2 (some .boolean) 1 0 0 [.ref a, .int x] h (fun r h1 => r = some (.int (jv_b (decide (0 ≤ x ∧ x < nI c)))) ∧ h1 = h) := by
  obtain ⟨b1, b2, b3, b4, b5, b6⟩ := B
  refine Cn.of (own := RX0) rfl (by decide) (by exact Nat.le_of_ble_eq_true rfl) (by decide) (fun K hK C D I => ?_)
  refine J_iload_n C rfl dX0_has_0 ?_
  refine J_if_lt C 16 (by decide) dX0_has_1 (fun z1 => ?_) (fun z1 => ?_)
  · refine J_iconst C (v := nI 0) (by decide) dX0_has_16 ?_
    refine J_zret C D (Or.inl rfl) ⟨by rw [decide_eq_false (fun w => absurd w.1 (Int32.not_le.mpr z1))]; rfl, rfl⟩ (by omega) (by omega) dX0_has_17
  · refine J_iload_n C rfl dX0_has_4 ?_
    first | refine J_aload_n C rfl dX0_has_5 ?_ | refine J_aload_nq C rfl dX0_has_5 ?_ | refine J_aload_nN C rfl dX0_has_5 ?_
    refine J_get C fl_X0_31 (by first | assumption | exact jv_up_at _ _ _ | (simp [jv_up, *]; done)) (by rfl) dX0_has_6 ?_
    refine J_icmp_ge C 16 (by decide) dX0_has_9 (fun z2 => ?_) (fun z2 => ?_)
    · refine J_iconst C (v := nI 0) (by decide) dX0_has_16 ?_
      refine J_zret C D (Or.inl rfl) ⟨by rw [decide_eq_false (fun w => absurd w.2 (Int32.not_lt.mpr z2))]; rfl, rfl⟩ (by omega) (by omega) dX0_has_17
    · refine J_iconst C (v := nI 1) (by decide) dX0_has_12 ?_
      refine J_goto C 17 (by decide) dX0_has_13 ?_
      refine J_zret C D (Or.inr rfl) ⟨by rw [decide_eq_true ⟨Int32.not_lt.mp z1, Int32.not_le.mp z2⟩]; rfl, rfl⟩ (by omega) (by omega) dX0_has_17
set_option maxHeartbeats 400000 in
theorem c_Best_numberAt (B : bsF h a an ap limit c fN fP) (i : Nat) (hi : i < 50) : Cn l yX0_numberAt cX0_numberAt 2 (some .int) 1 0 0 [.ref a, .int (nI i)] h (fun r h1 => r = some (.int (fN i)) ∧ h1 = h) := by
  obtain ⟨b1, b2, b3, b4, b5, b6⟩ := B
  refine Cn.of (own := RX0) rfl (by decide) (by exact Nat.le_of_ble_eq_true rfl) (by decide) (fun K hK C D I => ?_)
  refine J_iload_n C rfl dX0_numberAt_0 ?_
  refine J_nif_lt C (by omega) 22 dX0_numberAt_1 (by decide) ?_
  refine J_iload_n C rfl dX0_numberAt_4 ?_
  first | refine J_aload_n C rfl dX0_numberAt_5 ?_ | refine J_aload_nq C rfl dX0_numberAt_5 ?_ | refine J_aload_nN C rfl dX0_numberAt_5 ?_
  refine J_get C fl_X0_9 (by first | assumption | exact jv_up_at _ _ _ | (simp [jv_up, *]; done)) (by rfl) dX0_numberAt_6 ?_
  refine J_alen C (by first | assumption | exact jv_up_at _ _ _ | (simp [jv_up, *]; done)) (by decide) dX0_numberAt_9 ?_
  refine J_nicmp_ge C (by first | omega | (dsimp only; omega)) (by first | omega | (dsimp only; omega)) 22 (by decide) dX0_numberAt_10 (fun z1 => ?_) (fun z1 => ?_)
  · exact absurd z1 (Nat.not_le.mpr hi)
  · first | refine J_aload_n C rfl dX0_numberAt_13 ?_ | refine J_aload_nq C rfl dX0_numberAt_13 ?_ | refine J_aload_nN C rfl dX0_numberAt_13 ?_
    refine J_get C fl_X0_9 (by first | assumption | exact jv_up_at _ _ _ | (simp [jv_up, *]; done)) (by rfl) dX0_numberAt_14 ?_
    refine J_iload_n C rfl dX0_numberAt_17 ?_
    refine J_iald C (by first | assumption | exact jv_up_at _ _ _ | (simp [jv_up, *]; done)) rfl hi (by decide) dX0_numberAt_18 ?_
    refine J_goto C 23 (by decide) dX0_numberAt_19 ?_
    refine J_iret C D ⟨rfl, rfl⟩ (by omega) (by omega) dX0_numberAt_23
set_option maxHeartbeats 400000 in
theorem c_Best_pointsAt (B : bsF h a an ap limit c fN fP) (i : Nat) (hi : i < 50) : Cn l yX0_pointsAt cX0_pointsAt 2 (some .int) 1 0 0 [.ref a, .int (nI i)] h (fun r h1 => r = some (.int (fP i)) ∧ h1 = h) := by
  obtain ⟨b1, b2, b3, b4, b5, b6⟩ := B
  refine Cn.of (own := RX0) rfl (by decide) (by exact Nat.le_of_ble_eq_true rfl) (by decide) (fun K hK C D I => ?_)
  refine J_iload_n C rfl dX0_pointsAt_0 ?_
  refine J_nif_lt C (by omega) 22 dX0_pointsAt_1 (by decide) ?_
  refine J_iload_n C rfl dX0_pointsAt_4 ?_
  first | refine J_aload_n C rfl dX0_pointsAt_5 ?_ | refine J_aload_nq C rfl dX0_pointsAt_5 ?_ | refine J_aload_nN C rfl dX0_pointsAt_5 ?_
  refine J_get C fl_X0_15 (by first | assumption | exact jv_up_at _ _ _ | (simp [jv_up, *]; done)) (by rfl) dX0_pointsAt_6 ?_
  refine J_alen C (by first | assumption | exact jv_up_at _ _ _ | (simp [jv_up, *]; done)) (by decide) dX0_pointsAt_9 ?_
  refine J_nicmp_ge C (by first | omega | (dsimp only; omega)) (by first | omega | (dsimp only; omega)) 22 (by decide) dX0_pointsAt_10 (fun z1 => ?_) (fun z1 => ?_)
  · exact absurd z1 (Nat.not_le.mpr hi)
  · first | refine J_aload_n C rfl dX0_pointsAt_13 ?_ | refine J_aload_nq C rfl dX0_pointsAt_13 ?_ | refine J_aload_nN C rfl dX0_pointsAt_13 ?_
    refine J_get C fl_X0_15 (by first | assumption | exact jv_up_at _ _ _ | (simp [jv_up, *]; done)) (by rfl) dX0_pointsAt_14 ?_
    refine J_iload_n C rfl dX0_pointsAt_17 ?_
    refine J_iald C (by first | assumption | exact jv_up_at _ _ _ | (simp [jv_up, *]; done)) rfl hi (by decide) dX0_pointsAt_18 ?_
    refine J_goto C 23 (by decide) dX0_pointsAt_19 ?_
    refine J_iret C D ⟨rfl, rfl⟩ (by omega) (by omega) dX0_pointsAt_23
set_option maxHeartbeats 400000 in
theorem c_Best_goesBefore (B : bsF h a an ap limit c fN fP) (i : Nat) (hi : i < 50) (x y : hiT) (hx : x.1 < 10000) (hy : y.1 < 10000) (h1 : fN i = nI y.1) (h2 : fP i = y.2) : Cn l yX0_goesBefore cX0_goesBefore 5 (some .boolean) 2 0 0 [.ref a, .int (nI i), .int (nI x.1), .int x.2] h (fun r h1 => r = some (.int (jv_b (hi_bt x y))) ∧ h1 = h) := by
  have B0 := B
  obtain ⟨b1, b2, b3, b4, b5, b6⟩ := B
  refine Cn.of (own := RX0) rfl (by decide) (by exact Nat.le_of_ble_eq_true rfl) (by decide) (fun K hK C D I => ?_)
  first | refine J_aload_n C rfl dX0_goesBefore_0 ?_ | refine J_aload_nq C rfl dX0_goesBefore_0 ?_ | refine J_aload_nN C rfl dX0_goesBefore_0 ?_
  refine J_iload_n C rfl dX0_goesBefore_1 ?_
  refine J_callV C (c_Best_pointsAt B0 i hi) cw_X0_42 (by first | assumption | exact jv_up_at _ _ _ | (simp [jv_up, *]; done)) rfl rfl rfl rfl (by exact Nat.le_of_ble_eq_true rfl) (by decide) (by omega) (by omega) dX0_goesBefore_2 ?_
  rintro _ _ ⟨rfl, rfl⟩
  rw [h2]
  refine J_istore C (by decide) dX0_goesBefore_5 ?_
  refine J_iload_n C rfl dX0_goesBefore_7 ?_
  refine J_iload C rfl dX0_goesBefore_8 ?_
  refine J_icmp_gt C 28 (by decide) dX0_goesBefore_10 (fun z1 => ?_) (fun z1 => ?_)
  · refine J_iconst C (v := nI 1) (by decide) dX0_goesBefore_28 ?_
    refine J_goto C 33 (by decide) dX0_goesBefore_29 ?_
    refine J_zret C D (Or.inr rfl) ⟨by rw [show hi_bt x y = true by unfold hi_bt; rw [decide_eq_true z1]; rfl]; rfl, rfl⟩ (by omega) (by omega) dX0_goesBefore_33
  · refine J_iload_n C rfl dX0_goesBefore_13 ?_
    refine J_iload C rfl dX0_goesBefore_14 ?_
    refine J_icmp_ne C 32 (by decide) dX0_goesBefore_16 (fun z2 => ?_) (fun z2 => ?_)
    · refine J_iconst C (v := nI 0) (by decide) dX0_goesBefore_32 ?_
      refine J_zret C D (Or.inl rfl) ⟨by rw [show hi_bt x y = false by unfold hi_bt; rw [decide_eq_false z1, decide_eq_false z2]; rfl]; rfl, rfl⟩ (by omega) (by omega) dX0_goesBefore_33
    · refine J_iload_n C rfl dX0_goesBefore_19 ?_
      first | refine J_aload_n C rfl dX0_goesBefore_20 ?_ | refine J_aload_nq C rfl dX0_goesBefore_20 ?_ | refine J_aload_nN C rfl dX0_goesBefore_20 ?_
      refine J_iload_n C rfl dX0_goesBefore_21 ?_
      refine J_callV C (c_Best_numberAt B0 i hi) cw_X0_38 (by first | assumption | exact jv_up_at _ _ _ | (simp [jv_up, *]; done)) rfl rfl rfl rfl (by exact Nat.le_of_ble_eq_true rfl) (by decide) (by omega) (by omega) dX0_goesBefore_22 ?_
      rintro _ _ ⟨rfl, rfl⟩
      rw [h1]
      refine J_nicmp_ge C (by first | omega | (dsimp only; omega)) (by first | omega | (dsimp only; omega)) 32 (by decide) dX0_goesBefore_25 (fun z3 => ?_) (fun z3 => ?_)
      · refine J_iconst C (v := nI 0) (by decide) dX0_goesBefore_32 ?_
        refine J_zret C D (Or.inl rfl) ⟨by rw [show hi_bt x y = false by unfold hi_bt; rw [decide_eq_false z1, decide_eq_true z2, decide_eq_false (by omega)]; rfl]; rfl, rfl⟩ (by omega) (by omega) dX0_goesBefore_33
      · refine J_iconst C (v := nI 1) (by decide) dX0_goesBefore_28 ?_
        refine J_goto C 33 (by decide) dX0_goesBefore_29 ?_
        refine J_zret C D (Or.inr rfl) ⟨by rw [show hi_bt x y = true by unfold hi_bt; rw [decide_eq_false z1, decide_eq_true z2, decide_eq_true z3]; rfl]; rfl, rfl⟩ (by omega) (by omega) dX0_goesBefore_33
set_option maxHeartbeats 400000 in
theorem c_Best_set (B : bsF h a an ap limit c fN fP) (i : Nat) (hi : i < 50) (u v : Int32) : Cn l yX0_set cX0_set 4 none 1 0 0 [.ref a, .int (nI i), .int u, .int v] h (fun r h1 => r = none ∧ bsF h1 a an ap limit c (upd fN i u) (upd fP i v) ∧ fr (bs_S a an ap) h h1) := by
  have n := bsF_ne B
  obtain ⟨b1, b2, b3, b4, b5, b6⟩ := B
  refine Cn.of (own := RX0) rfl (by decide) (by exact Nat.le_of_ble_eq_true rfl) (by decide) (fun K hK C D I => ?_)
  refine J_iload_n C rfl dX0_set_0 ?_
  refine J_nif_lt C (by omega) 36 dX0_set_1 (by decide) ?_
  refine J_iload_n C rfl dX0_set_4 ?_
  first | refine J_aload_n C rfl dX0_set_5 ?_ | refine J_aload_nq C rfl dX0_set_5 ?_ | refine J_aload_nN C rfl dX0_set_5 ?_
  refine J_get C fl_X0_9 (by first | assumption | exact jv_up_at _ _ _ | (simp [jv_up, *]; done)) (by rfl) dX0_set_6 ?_
  refine J_alen C (by first | assumption | exact jv_up_at _ _ _ | (simp [jv_up, *]; done)) (by decide) dX0_set_9 ?_
  refine J_nicmp_ge C (by first | omega | (dsimp only; omega)) (by first | omega | (dsimp only; omega)) 36 (by decide) dX0_set_10 (fun z1 => ?_) (fun z1 => ?_)
  · exact absurd z1 (Nat.not_le.mpr hi)
  · refine J_iload_n C rfl dX0_set_13 ?_
    first | refine J_aload_n C rfl dX0_set_14 ?_ | refine J_aload_nq C rfl dX0_set_14 ?_ | refine J_aload_nN C rfl dX0_set_14 ?_
    refine J_get C fl_X0_15 (by first | assumption | exact jv_up_at _ _ _ | (simp [jv_up, *]; done)) (by rfl) dX0_set_15 ?_
    refine J_alen C (by first | assumption | exact jv_up_at _ _ _ | (simp [jv_up, *]; done)) (by decide) dX0_set_18 ?_
    refine J_nicmp_ge C (by first | omega | (dsimp only; omega)) (by first | omega | (dsimp only; omega)) 36 (by decide) dX0_set_19 (fun z2 => ?_) (fun z2 => ?_)
    · exact absurd z2 (Nat.not_le.mpr hi)
    · first | refine J_aload_n C rfl dX0_set_22 ?_ | refine J_aload_nq C rfl dX0_set_22 ?_ | refine J_aload_nN C rfl dX0_set_22 ?_
      refine J_get C fl_X0_9 (by first | assumption | exact jv_up_at _ _ _ | (simp [jv_up, *]; done)) (by rfl) dX0_set_23 ?_
      refine J_iload_n C rfl dX0_set_26 ?_
      refine J_iload_n C rfl dX0_set_27 ?_
      refine J_iast C (by first | assumption | exact jv_up_at _ _ _ | (simp [jv_up, *]; done)) rfl hi (by decide) dX0_set_28 ?_
      have b1' := jv_up_of (x := .inl (0, 50, .inl (upd fN i u))) n.1.symm b1
      have b3' := jv_up_of (x := .inl (0, 50, .inl (upd fN i u))) b4.symm b3
      first | refine J_aload_n C rfl dX0_set_29 ?_ | refine J_aload_nq C rfl dX0_set_29 ?_ | refine J_aload_nN C rfl dX0_set_29 ?_
      refine J_get C fl_X0_15 (by first | assumption | exact jv_up_at _ _ _ | (simp [jv_up, *]; done)) (by rfl) dX0_set_30 ?_
      refine J_iload_n C rfl dX0_set_33 ?_
      refine J_iload_n C rfl dX0_set_34 ?_
      refine J_iast C (by first | assumption | exact jv_up_at _ _ _ | (simp [jv_up, *]; done)) rfl hi (by decide) dX0_set_35 ?_
      refine J_vret C D ⟨rfl, ⟨jv_up_of n.2.symm b1', jv_up_of b4 (jv_up_at _ _ _), jv_up_at _ _ _, b4, b5, b6⟩, fr_tr (fr_up (Or.inr (Or.inl rfl))) (fr_up (Or.inr (Or.inr rfl)))⟩ (by omega) (by omega) dX0_set_36
end BEST
end
section
section OFFER
variable {K : jT} {cc : ByteArray} {nL fr0 mc ms cells slots pc : Nat} {own : String} {lv : Nat → Option Value} {rest : List Value} {h : jH}
theorem J_nidec (C : JC K cc nL own fr0 mc ms) {i a : Nat} (hv : lv i = some (.int (nI (a + 1)))) (hn : i < nL) (d : decode cc pc = .ok (.iinc i (-1), 3)) (k : J K cells slots (pc + 3) (jv_u1 lv i (.int (nI a))) rest h) : J K cells slots pc lv rest h := by
  refine J_iinc C hv hn d ?_
  rw [show nI (a + 1) + Int32.ofInt (-1) = nI a from pk_m1 a]
  exact k
end OFFER
/-- how far up x goes from place p -/
def hi_bp (x : hiT) (L : List hiT) : Nat → Nat
  | 0 => 0
  | p + 1 => if hi_bt x (L.getD p (0, 0)) then hi_bp x L p else p + 1
theorem hi_bp_le (x : hiT) (L : List hiT) : ∀ p, hi_bp x L p ≤ p
  | 0 => Nat.le_refl _
  | p + 1 => by
    unfold hi_bp
    split
    · exact Nat.le_succ_of_le (hi_bp_le x L p)
    · exact Nat.le_refl _
def hi_bo (limit : Nat) (L : List hiT) (x : hiT) : List hiT := if limit ≤ hi_bp x L L.length then L else (L.take (hi_bp x L L.length) ++ x :: L.drop (hi_bp x L L.length)).take limit
theorem hi_bo_get {limit p : Nat} {L : List hiT} {x : hiT} (hp : p ≤ L.length) {i : Nat} {z : hiT} (h : ((L.take p ++ x :: L.drop p).take limit)[i]? = some z) : (i < p ∧ L[i]? = some z) ∨ (i = p ∧ z = x) ∨ (p < i ∧ L[i - 1]? = some z) := by
  rw [List.getElem?_take] at h
  by_cases hl : i < limit
  · rw [if_pos hl] at h
    have hlen : (L.take p).length = p := by rw [List.length_take]; omega
    by_cases h1 : i < p
    · rw [List.getElem?_append_left (by omega), List.getElem?_take, if_pos h1] at h
      exact Or.inl ⟨h1, h⟩
    · rw [List.getElem?_append_right (by omega), hlen] at h
      by_cases h2 : i = p
      · subst h2
        rw [Nat.sub_self] at h
        exact Or.inr (Or.inl ⟨rfl, by cases h; rfl⟩)
      · rw [show i - p = (i - 1 - p) + 1 by omega, List.getElem?_cons_succ, List.getElem?_drop] at h
        exact Or.inr (Or.inr ⟨by omega, by rw [show p + (i - 1 - p) = i - 1 by omega] at h; exact h⟩)
  · rw [if_neg hl] at h; cases h
section OFFER2
variable {l : jL} {h : jH} {a an ap limit : Nat} {L : List hiT}
set_option maxHeartbeats 800000 in
theorem c_Best_offer (B : bs h a an ap limit L) (x : hiT) (hx : x.1 < 10000) : Cn l yX0_offer cX0_offer 5 none 3 0 0 [.ref a, .int (nI x.1), .int x.2] h (fun r h1 => r = none ∧ bs h1 a an ap limit (hi_bo limit L x) ∧ fr (bs_S a an ap) h h1) := by
  have B0 := B
  obtain ⟨fN, fP, B1, B2⟩ := B
  have n := bsF_ne B1
  have B1' := B1
  obtain ⟨b1, b2, b3, b4, b5, b6⟩ := B1
  refine Cn.of (own := RX0) rfl (by decide) (by exact Nat.le_of_ble_eq_true rfl) (by decide) (fun K hK C D I => ?_)
  have hp := hi_bp_le x L L.length
  generalize hpe : hi_bp x L L.length = p at hp
  -- the shift
  have shift : ∀ (c2 : Nat) (hc2 : c2 ≤ limit) (hc3 : p < c2) (hc4 : c2 ≤ L.length + 1) (hlen : ((L.take p ++ x :: L.drop p).take limit).length = c2), limit ≤ p ∨ hi_bo limit L x = (L.take p ++ x :: L.drop p).take limit → ∀ (m i : Nat) (h1 : jH) (gN gP : Nat → Int32), i = p + m → i < c2 → bsF h1 a an ap limit c2 gN gP → fr (bs_S a an ap) h h1 → (∀ j, j ≤ i → gN j = fN j ∧ gP j = fP j) → (∀ j, i < j → j < c2 → gN j = fN (j - 1) ∧ gP j = fP (j - 1)) → J K 0 0 65 (jv_l [(0, .ref a), (1, .int (nI x.1)), (2, .int x.2), (3, .int (nI p)), (4, .int (nI i))]) [] h1 := by
    intro c2 hc2 hc3 hc4 hlen hbo m
    induction m with
    | zero =>
      intro i h1 gN gP hi hic G F g1 g2
      have w := G.1
      refine J_iload C rfl dX0_offer_65 ?_
      refine J_iload_n C rfl dX0_offer_67 ?_
      refine J_nicmp_le C (by first | omega | (dsimp only; omega)) (by first | omega | (dsimp only; omega)) 99 (by decide) dX0_offer_68 (fun z1 => ?_) (fun z1 => ?_)
      · first | refine J_aload_n C rfl dX0_offer_99 ?_ | refine J_aload_nq C rfl dX0_offer_99 ?_ | refine J_aload_nN C rfl dX0_offer_99 ?_
        refine J_iload_n C rfl dX0_offer_100 ?_
        refine J_iload_n C rfl dX0_offer_101 ?_
        refine J_iload_n C rfl dX0_offer_102 ?_
        refine J_callV C (c_Best_set G p (by omega) (nI x.1) x.2) cw_X0_45 (by first | assumption | exact jv_up_at _ _ _ | (simp [jv_up, *]; done)) rfl rfl rfl rfl (by exact Nat.le_of_ble_eq_true rfl) (by decide) (by omega) (by omega) dX0_offer_103 ?_
        rintro _ h2 ⟨rfl, G2, F2⟩
        refine J_vret C D ⟨rfl, ?_, fr_tr F F2⟩ (by omega) (by omega) dX0_offer_106
        rw [hbo.resolve_left (by omega)]
        refine ⟨_, _, by rw [hlen]; exact G2, fun j z hz => ?_⟩
        have hj := (List.getElem?_eq_some_iff.mp hz).1
        rcases hi_bo_get (by omega) hz with ⟨q1, q2⟩ | ⟨q1, q2⟩ | ⟨q1, q2⟩
        · rw [pk_un (by omega), pk_un (by omega), (g1 j (by omega)).1, (g1 j (by omega)).2]
          exact B2 j z q2
        · rw [q1, pk_us, pk_us, q2]; exact ⟨rfl, rfl, hx⟩
        · rw [pk_un (by omega), pk_un (by omega), (g2 j (by omega) (by omega)).1, (g2 j (by omega) (by omega)).2]
          exact B2 (j - 1) z q2
      · omega
    | succ m ih =>
      intro i h1 gN gP hi hic G F g1 g2
      have w := G.1
      refine J_iload C rfl dX0_offer_65 ?_
      refine J_iload_n C rfl dX0_offer_67 ?_
      refine J_nicmp_le C (by first | omega | (dsimp only; omega)) (by first | omega | (dsimp only; omega)) 99 (by decide) dX0_offer_68 (fun z1 => ?_) (fun z1 => ?_)
      · omega
      · first | refine J_aload_n C rfl dX0_offer_71 ?_ | refine J_aload_nq C rfl dX0_offer_71 ?_ | refine J_aload_nN C rfl dX0_offer_71 ?_
        refine J_iload C rfl dX0_offer_72 ?_
        first | refine J_aload_n C rfl dX0_offer_74 ?_ | refine J_aload_nq C rfl dX0_offer_74 ?_ | refine J_aload_nN C rfl dX0_offer_74 ?_
        refine J_iload C rfl dX0_offer_75 ?_
        refine J_iconst C (v := nI 1) (by decide) dX0_offer_77 ?_
        first | refine J_nisub C (by omega) dX0_offer_78 ?_ | refine J_isub C dX0_offer_78 ?_
        refine J_callV C (c_Best_numberAt G (i - 1) (by omega)) cw_X0_38 (by first | assumption | exact jv_up_at _ _ _ | (simp [jv_up, *]; done)) rfl rfl rfl rfl (by exact Nat.le_of_ble_eq_true rfl) (by decide) (by omega) (by omega) dX0_offer_79 ?_
        rintro _ _ ⟨rfl, rfl⟩
        first | refine J_aload_n C rfl dX0_offer_82 ?_ | refine J_aload_nq C rfl dX0_offer_82 ?_ | refine J_aload_nN C rfl dX0_offer_82 ?_
        refine J_iload C rfl dX0_offer_83 ?_
        refine J_iconst C (v := nI 1) (by decide) dX0_offer_85 ?_
        first | refine J_nisub C (by omega) dX0_offer_86 ?_ | refine J_isub C dX0_offer_86 ?_
        refine J_callV C (c_Best_pointsAt G (i - 1) (by omega)) cw_X0_42 (by first | assumption | exact jv_up_at _ _ _ | (simp [jv_up, *]; done)) rfl rfl rfl rfl (by exact Nat.le_of_ble_eq_true rfl) (by decide) (by omega) (by omega) dX0_offer_87 ?_
        rintro _ _ ⟨rfl, rfl⟩
        refine J_callV C (c_Best_set G i (by omega) (gN (i - 1)) (gP (i - 1))) cw_X0_45 (by first | assumption | exact jv_up_at _ _ _ | (simp [jv_up, *]; done)) rfl rfl rfl rfl (by exact Nat.le_of_ble_eq_true rfl) (by decide) (by omega) (by omega) dX0_offer_90 ?_
        rintro _ h2 ⟨rfl, G2, F2⟩
        refine J_nidec C (a := i - 1) (by show some _ = some _; rw [show i = i - 1 + 1 by omega]; rfl) (by decide) dX0_offer_93 ?_
        refine J_goto C 65 (by decide) dX0_offer_96 ?_
        refine J_sub (by exact (And.intro rfl (And.intro rfl (And.intro rfl (And.intro rfl (And.intro rfl trivial)))))) (ih (i - 1) h2 _ _ (by omega) (by omega) G2 (fr_tr F F2) (fun j hj => ?_) (fun j hj hj2 => ?_))
        · rw [pk_un (by omega), pk_un (by omega)]; exact g1 j (by omega)
        · by_cases q : j = i
          · rw [q, pk_us, pk_us]; exact g1 (i - 1) (by omega)
          · rw [pk_un q, pk_un q]; exact g2 j (by omega) hj2
  have K27 : J K 0 0 27 (jv_l [(0, .ref a), (1, .int (nI x.1)), (2, .int x.2), (3, .int (nI p))]) [] h := by
    refine J_iload_n C rfl dX0_offer_27 ?_
    first | refine J_aload_n C rfl dX0_offer_28 ?_ | refine J_aload_nq C rfl dX0_offer_28 ?_ | refine J_aload_nN C rfl dX0_offer_28 ?_
    refine J_get C fl_X0_27 (by first | assumption | exact jv_up_at _ _ _ | (simp [jv_up, *]; done)) (by rfl) dX0_offer_29 ?_
    refine J_nicmp_lt C (by first | omega | (dsimp only; omega)) (by first | omega | (dsimp only; omega)) 36 (by decide) dX0_offer_32 (fun z1 => ?_) (fun z1 => ?_)
    · have hbo : hi_bo limit L x = (L.take p ++ x :: L.drop p).take limit := by unfold hi_bo; rw [hpe, if_neg (by omega)]
      first | refine J_aload_n C rfl dX0_offer_36 ?_ | refine J_aload_nq C rfl dX0_offer_36 ?_ | refine J_aload_nN C rfl dX0_offer_36 ?_
      refine J_get C fl_X0_31 (by first | assumption | exact jv_up_at _ _ _ | (simp [jv_up, *]; done)) (by rfl) dX0_offer_37 ?_
      first | refine J_aload_n C rfl dX0_offer_40 ?_ | refine J_aload_nq C rfl dX0_offer_40 ?_ | refine J_aload_nN C rfl dX0_offer_40 ?_
      refine J_get C fl_X0_27 (by first | assumption | exact jv_up_at _ _ _ | (simp [jv_up, *]; done)) (by rfl) dX0_offer_41 ?_
      refine J_nicmp_ge C (by first | omega | (dsimp only; omega)) (by first | omega | (dsimp only; omega)) 57 (by decide) dX0_offer_44 (fun z2 => ?_) (fun z2 => ?_)
      · first | refine J_aload_n C rfl dX0_offer_57 ?_ | refine J_aload_nq C rfl dX0_offer_57 ?_ | refine J_aload_nN C rfl dX0_offer_57 ?_
        refine J_get C fl_X0_31 (by first | assumption | exact jv_up_at _ _ _ | (simp [jv_up, *]; done)) (by rfl) dX0_offer_58 ?_
        refine J_iconst C (v := nI 1) (by decide) dX0_offer_61 ?_
        first | refine J_nisub C (by omega) dX0_offer_62 ?_ | refine J_isub C dX0_offer_62 ?_
        refine J_istore C (by decide) dX0_offer_63 ?_
        have hlen : ((L.take p ++ x :: L.drop p).take limit).length = L.length := by
          rw [List.length_take, List.length_append, List.length_cons, List.length_take, List.length_drop]; omega
        refine J_sub (by exact (And.intro rfl (And.intro rfl (And.intro rfl (And.intro rfl (And.intro rfl trivial)))))) (shift L.length b5 (by omega) (by omega) hlen (Or.inr hbo) (L.length - 1 - p) (L.length - 1) h fN fP (by omega) (by omega) B1' (fr_rf _ _) (fun _ _ => ⟨rfl, rfl⟩) (fun j q1 q2 => by omega))
      · first | refine J_aload_n C rfl dX0_offer_47 ?_ | refine J_aload_nq C rfl dX0_offer_47 ?_ | refine J_aload_nN C rfl dX0_offer_47 ?_
        refine J_dup C rfl dX0_offer_48 ?_
        refine J_get C fl_X0_31 (by first | assumption | exact jv_up_at _ _ _ | (simp [jv_up, *]; done)) (by rfl) dX0_offer_49 ?_
        refine J_iconst C (v := nI 1) (by decide) dX0_offer_52 ?_
        first | refine J_niadd C dX0_offer_53 ?_ | refine J_iadd C dX0_offer_53 ?_
        refine J_put C fl_X0_31 (by first | assumption | exact jv_up_at _ _ _ | (simp [jv_up, *]; done)) (by exact Nat.le_of_ble_eq_true rfl) (by rfl) (by rfl) dX0_offer_54 ?_
        simp only [List.set]
        first | refine J_aload_n C rfl dX0_offer_57 ?_ | refine J_aload_nq C rfl dX0_offer_57 ?_ | refine J_aload_nN C rfl dX0_offer_57 ?_
        refine J_get C fl_X0_31 (by first | assumption | exact jv_up_at _ _ _ | (simp [jv_up, *]; done)) (by rfl) dX0_offer_58 ?_
        refine J_iconst C (v := nI 1) (by decide) dX0_offer_61 ?_
        first | refine J_nisub C (by omega) dX0_offer_62 ?_ | refine J_isub C dX0_offer_62 ?_
        refine J_istore C (by decide) dX0_offer_63 ?_
        have hlen : ((L.take p ++ x :: L.drop p).take limit).length = L.length + 1 := by
          rw [List.length_take, List.length_append, List.length_cons, List.length_take, List.length_drop]; omega
        refine J_sub (by exact (And.intro rfl (And.intro rfl (And.intro rfl (And.intro rfl (And.intro rfl trivial)))))) (shift (L.length + 1) (by omega) (by omega) (by omega) hlen (Or.inr hbo) (L.length - p) (L.length + 1 - 1) _ fN fP (by omega) (by omega) ⟨jv_up_at _ _ _, jv_up_of n.1 b2, jv_up_of n.2 b3, b4, by omega, b6⟩ (fr_up (Or.inl rfl)) (fun _ _ => ⟨rfl, rfl⟩) (fun j q1 q2 => by omega))
    · skip
      refine J_vret C D ⟨rfl, by unfold hi_bo; rw [hpe, if_pos z1]; exact B0, fr_rf _ _⟩ (by omega) (by omega) dX0_offer_35
  have down : ∀ i : Nat, i ≤ L.length → hi_bp x L i = p → J K 0 0 5 (jv_l [(0, .ref a), (1, .int (nI x.1)), (2, .int x.2), (3, .int (nI i))]) [] h := by
    intro i
    induction i with
    | zero =>
      intro hi he
      have he : 0 = p := he
      subst he
      refine J_iload_n C rfl dX0_offer_5 ?_
      refine J_nif_le C (by decide) 27 (by decide) dX0_offer_6 (fun z1 => ?_) (fun z1 => ?_)
      · refine J_sub (by exact (And.intro rfl (And.intro rfl (And.intro rfl (And.intro rfl trivial))))) (K27)
      · exact absurd z1 (Nat.lt_irrefl 0)
    | succ i ih =>
      intro hi he
      refine J_iload_n C rfl dX0_offer_5 ?_
      refine J_nif_le C (by omega) 27 (by decide) dX0_offer_6 (fun z1 => ?_) (fun z1 => ?_)
      · exact absurd z1 (Nat.succ_ne_zero i)
      · have hLi : L[i]? = some (L.getD i (0, 0)) := by rw [List.getD_eq_getElem?_getD, List.getElem?_eq_getElem (by omega)]; rfl
        have hb := B2 i _ hLi
        first | refine J_aload_n C rfl dX0_offer_9 ?_ | refine J_aload_nq C rfl dX0_offer_9 ?_ | refine J_aload_nN C rfl dX0_offer_9 ?_
        refine J_iload_n C rfl dX0_offer_10 ?_
        refine J_iconst C (v := nI 1) (by decide) dX0_offer_11 ?_
        refine J_nisub C (by omega) dX0_offer_12 ?_
        refine J_iload_n C rfl dX0_offer_13 ?_
        refine J_iload_n C rfl dX0_offer_14 ?_
        refine J_callV C (c_Best_goesBefore B1' i (by omega) x (L.getD i (0, 0)) hx hb.2.2 hb.1 hb.2.1) cw_X0_34 (by first | assumption | exact jv_up_at _ _ _ | (simp [jv_up, *]; done)) rfl rfl rfl rfl (by exact Nat.le_of_ble_eq_true rfl) (by decide) (by omega) (by omega) dX0_offer_15 ?_
        rintro _ _ ⟨rfl, rfl⟩
        unfold hi_bp at he
        refine J_bif_eq C 27 (by decide) dX0_offer_18 (fun z2 => ?_) (fun z2 => ?_)
        · rw [z2] at he
          have he : i + 1 = p := he
          rw [he]
          refine J_sub (by exact (And.intro rfl (And.intro rfl (And.intro rfl (And.intro rfl trivial))))) (K27)
        · rw [z2] at he
          refine J_nidec C (a := i) rfl (by decide) dX0_offer_21 ?_
          refine J_goto C 5 (by decide) dX0_offer_24 ?_
          refine J_sub (by exact (And.intro rfl (And.intro rfl (And.intro rfl (And.intro rfl trivial))))) (ih (by omega) he)
  first | refine J_aload_n C rfl dX0_offer_0 ?_ | refine J_aload_nq C rfl dX0_offer_0 ?_ | refine J_aload_nN C rfl dX0_offer_0 ?_
  refine J_get C fl_X0_31 (by first | assumption | exact jv_up_at _ _ _ | (simp [jv_up, *]; done)) (by rfl) dX0_offer_1 ?_
  refine J_istore_n C (by decide) dX0_offer_4 ?_
  refine J_sub (by exact (And.intro rfl (And.intro rfl (And.intro rfl (And.intro rfl trivial))))) (down L.length (Nat.le_refl _) hpe)
end OFFER2
end
section
/-! ArrayList: over an array of Objects -/
abbrev alO (mcn : Int32) (d n : Nat) : jE := .inr (12, [.int mcn, .ref d, .int (nI n)])
abbrev alA (cap : Nat) (f : Nat → Option Nat) : jE := .inl (4, cap, .inr (.inr (.inr (.inr f))))
/-- a list of objects of class ci, its array at d of cap places (0: the shared empty one) -/
def al (l : jL) (h : jH) (ci a d cap : Nat) (L : List Nat) : Prop :=
  ∃ mcn, h a = some (alO mcn d L.length) ∧ (∀ x ∈ L, ∃ fs, h x = some (.inr (ci, fs))) ∧
  ((cap = 0 ∧ L = [] ∧ d = l.2.1) ∨ (10 ≤ cap ∧ cap ≤ 60000 ∧ L.length ≤ cap ∧ ∃ f, h d = some (alA cap f) ∧ ∀ i x, L[i]? = some x → f i = some x))
def gcap (cap : Nat) : Nat := if cap = 0 then 10 else cap + cap / 2
section ALIST
variable {l : jL} {h : jH} {ci a d cap : Nat} {L : List Nat}
set_option maxHeartbeats 400000 in
theorem c_AC_init (a : Nat) : Cn l yJxa1e45_init_da8c8 cJxa1e45_init_da8c8 1 none 1 0 0 [.ref a] h (fun r h1 => r = none ∧ h1 = h) := by
  refine Cn.of (own := RJxa1e45) rfl (by decide) (by exact Nat.le_of_ble_eq_true rfl) (by decide) (fun K hK C D I => ?_)
  first | refine J_aload_n C rfl dJxa1e45_init_da8c8_0 ?_ | refine J_aload_nq C rfl dJxa1e45_init_da8c8_0 ?_ | refine J_aload_nN C rfl dJxa1e45_init_da8c8_0 ?_
  refine J_objInit C ml_Jxa1e45_1 oi_inst oi_code (by decide) (by exact Nat.le_of_ble_eq_true rfl) dJxa1e45_init_da8c8_1 ?_
  refine J_vret C D ⟨rfl, rfl⟩ (by omega) (by omega) dJxa1e45_init_da8c8_4
set_option maxHeartbeats 400000 in
theorem c_ALs_init (x y z : Value) (hh : h a = some (.inr (12, [x, y, z]))) : Cn l yJxc12de_init_da8c8 cJxc12de_init_da8c8 1 none 2 0 0 [.ref a] h (fun r h1 => r = none ∧ h1 = jv_up h a (.inr (12, [.int (nI 0), y, z]))) := by
  refine Cn.of (own := RJxc12de) rfl (by decide) (by exact Nat.le_of_ble_eq_true rfl) (by decide) (fun K hK C D I => ?_)
  first | refine J_aload_n C rfl dJxc12de_init_da8c8_0 ?_ | refine J_aload_nq C rfl dJxc12de_init_da8c8_0 ?_ | refine J_aload_nN C rfl dJxc12de_init_da8c8_0 ?_
  refine J_callI C (c_AC_init a) cw_Jxc12de_1 rfl rfl (by exact Nat.le_of_ble_eq_true rfl) (by decide) (by omega) (by omega) dJxc12de_init_da8c8_1 ?_
  rintro _ _ ⟨rfl, rfl⟩
  first | refine J_aload_n C rfl dJxc12de_init_da8c8_4 ?_ | refine J_aload_nq C rfl dJxc12de_init_da8c8_4 ?_ | refine J_aload_nN C rfl dJxc12de_init_da8c8_4 ?_
  refine J_iconst C (v := nI 0) (by decide) dJxc12de_init_da8c8_5 ?_
  refine J_put C fl_Jxc12de_7 (by first | assumption | exact jv_up_at _ _ _ | (simp [jv_up, *]; done)) (by exact Nat.le_of_ble_eq_true rfl) (by rfl) (by rfl) dJxc12de_init_da8c8_6 ?_
  refine J_vret C D ⟨rfl, rfl⟩ (by omega) (by omega) dJxc12de_init_da8c8_9
set_option maxHeartbeats 400000 in
theorem c_AL_init (hh : h a = some (.inr (12, [.int 0, .null, .int 0]))) : Cn l yJx4a65c_init_da8c8 cJx4a65c_init_da8c8 1 none 3 0 0 [.ref a] h (fun r h1 => r = none ∧ h1 = jv_up h a (alO 0 l.2.1 0)) := by
  refine Cn.of (own := RJx4a65c) rfl (by decide) (by exact Nat.le_of_ble_eq_true rfl) (by decide) (fun K hK C D I => ?_)
  first | refine J_aload_n C rfl dJx4a65c_init_da8c8_0 ?_ | refine J_aload_nq C rfl dJx4a65c_init_da8c8_0 ?_ | refine J_aload_nN C rfl dJx4a65c_init_da8c8_0 ?_
  refine J_callI C (c_ALs_init _ _ _ hh) cw_Jx4a65c_1 rfl rfl (by exact Nat.le_of_ble_eq_true rfl) (by decide) (by omega) (by omega) dJx4a65c_init_da8c8_1 ?_
  rintro _ _ ⟨rfl, rfl⟩
  first | refine J_aload_n C rfl dJx4a65c_init_da8c8_4 ?_ | refine J_aload_nq C rfl dJx4a65c_init_da8c8_4 ?_ | refine J_aload_nN C rfl dJx4a65c_init_da8c8_4 ?_
  refine J_getsE C al_empty dJx4a65c_init_da8c8_5 ?_
  rw [hK]
  refine J_put C fl_Jx4a65c_9 (by first | assumption | exact jv_up_at _ _ _ | (simp [jv_up, *]; done)) (by exact Nat.le_of_ble_eq_true rfl) (by first | rfl | exact jv_nar_a _ _) (by first | rfl | exact jv_fit_a _ _) dJx4a65c_init_da8c8_8 ?_
  refine J_vret C D ⟨rfl, by rw [jv_up_up]; rfl⟩ (by omega) (by omega) dJx4a65c_init_da8c8_11
set_option maxHeartbeats 400000 in
theorem c_AL_size (A : al l h ci a d cap L) : Cn l yJx4a65c_size_8abf5 cJx4a65c_size_8abf5 1 (some .int) 1 0 0 [.ref a] h (fun r h1 => r = some (.int (nI L.length)) ∧ h1 = h) := by
  obtain ⟨mcn, a1, a2, a3⟩ := A
  refine Cn.of (own := RJx4a65c) rfl (by decide) (by exact Nat.le_of_ble_eq_true rfl) (by decide) (fun K hK C D I => ?_)
  first | refine J_aload_n C rfl dJx4a65c_size_8abf5_0 ?_ | refine J_aload_nq C rfl dJx4a65c_size_8abf5_0 ?_ | refine J_aload_nN C rfl dJx4a65c_size_8abf5_0 ?_
  refine J_get C fl_Jx4a65c_48 (by first | assumption | exact jv_up_at _ _ _ | (simp [jv_up, *]; done)) (by rfl) dJx4a65c_size_8abf5_1 ?_
  refine J_iret C D ⟨rfl, rfl⟩ (by omega) (by omega) dJx4a65c_size_8abf5_4
set_option maxHeartbeats 400000 in
theorem c_PCheck (i n : Nat) (hi : i < n) (hn : n < 1000000) : Cn l yJ3_checkIndex_8e157 cJ3_checkIndex_8e157 3 (some .int) 1 0 0 [.int (nI i), .int (nI n), .null] h (fun r h1 => r = some (.int (nI i)) ∧ h1 = h) := by
  refine Cn.of (own := RJ3) rfl (by decide) (by exact Nat.le_of_ble_eq_true rfl) (by decide) (fun K hK C D I => ?_)
  refine J_iload_n C rfl dJ3_checkIndex_8e157_0 ?_
  refine J_nif_lt C (by omega) 9 dJ3_checkIndex_8e157_1 (by decide) ?_
  refine J_iload_n C rfl dJ3_checkIndex_8e157_4 ?_
  refine J_iload_n C rfl dJ3_checkIndex_8e157_5 ?_
  refine J_nicmp_lt C (by first | omega | (dsimp only; omega)) (by first | omega | (dsimp only; omega)) 16 (by decide) dJ3_checkIndex_8e157_6 (fun z1 => ?_) (fun z1 => ?_)
  · refine J_iload_n C rfl dJ3_checkIndex_8e157_16 ?_
    refine J_iret C D ⟨rfl, rfl⟩ (by omega) (by omega) dJ3_checkIndex_8e157_17
  · omega
set_option maxHeartbeats 400000 in
theorem c_OCheck (i n : Nat) (hi : i < n) (hn : n < 1000000) : Cn l yJ15_checkIndex_7cf53 cJ15_checkIndex_7cf53 2 (some .int) 2 0 0 [.int (nI i), .int (nI n)] h (fun r h1 => r = some (.int (nI i)) ∧ h1 = h) := by
  refine Cn.of (own := RJ15) rfl (by decide) (by exact Nat.le_of_ble_eq_true rfl) (by decide) (fun K hK C D I => ?_)
  refine J_iload_n C rfl dJ15_checkIndex_7cf53_0 ?_
  refine J_iload_n C rfl dJ15_checkIndex_7cf53_1 ?_
  refine J_null C dJ15_checkIndex_7cf53_2 ?_
  refine J_callS C (c_PCheck i n hi hn) cw_J15_105 rfl rfl (by exact Nat.le_of_ble_eq_true rfl) (by decide) (by omega) (by omega) dJ15_checkIndex_7cf53_3 ?_
  rintro _ _ ⟨rfl, rfl⟩
  refine J_iret C D ⟨rfl, rfl⟩ (by omega) (by omega) dJ15_checkIndex_7cf53_6
set_option maxHeartbeats 400000 in
theorem c_AL_elem {mcn : Int32} {n : Nat} {f : Nat → Option Nat} (a1 : h a = some (alO mcn d n)) (a2 : h d = some (alA cap f)) (hcap : cap ≤ 60000) (i : Nat) (hi : i < cap) : Cn l yJx4a65c_elementData_915e3 cJx4a65c_elementData_915e3 2 (some (.object "java/lang/Object")) 1 0 0 [.ref a, .int (nI i)] h (fun r h1 => r = some (va_rf (f i)) ∧ h1 = h) := by
  refine Cn.of (own := RJx4a65c) rfl (by decide) (by exact Nat.le_of_ble_eq_true rfl) (by decide) (fun K hK C D I => ?_)
  first | refine J_aload_n C rfl dJx4a65c_elementData_915e3_0 ?_ | refine J_aload_nq C rfl dJx4a65c_elementData_915e3_0 ?_ | refine J_aload_nN C rfl dJx4a65c_elementData_915e3_0 ?_
  refine J_get C fl_Jx4a65c_9 (by first | assumption | exact jv_up_at _ _ _ | (simp [jv_up, *]; done)) (by rfl) dJx4a65c_elementData_915e3_1 ?_
  refine J_iload_n C rfl dJx4a65c_elementData_915e3_4 ?_
  refine J_aald C a2 (Or.inl rfl) rfl hi (by omega) dJx4a65c_elementData_915e3_5 ?_
  refine J_aret C D (Or.inl ⟨_, rfl⟩) ⟨rfl, rfl⟩ (by omega) (by omega) dJx4a65c_elementData_915e3_6
theorem al_some (A : al l h ci a d cap L) {i x : Nat} (hx : L[i]? = some x) : 10 ≤ cap ∧ cap ≤ 60000 ∧ L.length ≤ cap ∧ i < L.length ∧ ∃ f, h d = some (alA cap f) ∧ f i = some x := by
  obtain ⟨mcn, a1, a2, a3⟩ := A
  rcases a3 with ⟨_, rfl, _⟩ | ⟨c1, c2, c3, f, f1, f2⟩
  · cases hx
  · exact ⟨c1, c2, c3, (List.getElem?_eq_some_iff.mp hx).1, f, f1, f2 i x hx⟩
set_option maxHeartbeats 400000 in
theorem c_AL_get (A : al l h ci a d cap L) (i x : Nat) (hx : L[i]? = some x) : Cn l yJx4a65c_get_915e3 cJx4a65c_get_915e3 2 (some (.object "java/lang/Object")) 3 0 0 [.ref a, .int (nI i)] h (fun r h1 => r = some (.ref x) ∧ h1 = h) := by
  obtain ⟨c1, c2, c3, hi, f, f1, f2⟩ := al_some A hx
  obtain ⟨mcn, a1, -⟩ := A
  refine Cn.of (own := RJx4a65c) rfl (by decide) (by exact Nat.le_of_ble_eq_true rfl) (by decide) (fun K hK C D I => ?_)
  refine J_iload_n C rfl dJx4a65c_get_915e3_0 ?_
  first | refine J_aload_n C rfl dJx4a65c_get_915e3_1 ?_ | refine J_aload_nq C rfl dJx4a65c_get_915e3_1 ?_ | refine J_aload_nN C rfl dJx4a65c_get_915e3_1 ?_
  refine J_get C fl_Jx4a65c_48 (by first | assumption | exact jv_up_at _ _ _ | (simp [jv_up, *]; done)) (by rfl) dJx4a65c_get_915e3_2 ?_
  refine J_callS C (c_OCheck i L.length hi (by omega)) cw_Jx4a65c_118 rfl rfl (by exact Nat.le_of_ble_eq_true rfl) (by decide) (by omega) (by omega) dJx4a65c_get_915e3_5 ?_
  rintro _ _ ⟨rfl, rfl⟩
  refine J_pop C rfl dJx4a65c_get_915e3_8 ?_
  first | refine J_aload_n C rfl dJx4a65c_get_915e3_9 ?_ | refine J_aload_nq C rfl dJx4a65c_get_915e3_9 ?_ | refine J_aload_nN C rfl dJx4a65c_get_915e3_9 ?_
  refine J_iload_n C rfl dJx4a65c_get_915e3_10 ?_
  refine J_callV C (c_AL_elem a1 f1 c2 i (by omega)) cw_Jx4a65c_123 (by first | assumption | exact jv_up_at _ _ _ | (simp [jv_up, *]; done)) rfl rfl rfl rfl (by exact Nat.le_of_ble_eq_true rfl) (by decide) (by omega) (by omega) dJx4a65c_get_915e3_11 ?_
  rintro _ _ ⟨rfl, rfl⟩
  refine J_aret C D (Or.inl ⟨_, rfl⟩) ⟨by rw [f2]; rfl, rfl⟩ (by omega) (by omega) dJx4a65c_get_915e3_14
set_option maxHeartbeats 400000 in
theorem c_newLength (n m p : Nat) (hn : 1 ≤ n ∧ n < 100000) (hm : m < 100000) (hp : p < 100000) : Cn l yJ8_newLength_cabcc cJ8_newLength_cabcc 4 (some .int) 2 0 0 [.int (nI n), .int (nI m), .int (nI p)] h (fun r h1 => r = some (.int (nI (n + max m p))) ∧ h1 = h) := by
  refine Cn.of (own := RJ8) rfl (by decide) (by exact Nat.le_of_ble_eq_true rfl) (by decide) (fun K hK C D I => ?_)
  refine J_iload_n C rfl dJ8_newLength_cabcc_0 ?_
  refine J_iload_n C rfl dJ8_newLength_cabcc_1 ?_
  refine J_iload_n C rfl dJ8_newLength_cabcc_2 ?_
  refine J_mmax C cw_J8_194 (by omega) (by omega) (by decide) (by exact Nat.le_of_ble_eq_true rfl) (by omega) (by omega) dJ8_newLength_cabcc_3 ?_
  first | refine J_niadd C dJ8_newLength_cabcc_6 ?_ | refine J_iadd C dJ8_newLength_cabcc_6 ?_
  refine J_istore_n C (by decide) dJ8_newLength_cabcc_7 ?_
  refine J_iconst C (v := nI 0) (by decide) dJ8_newLength_cabcc_8 ?_
  refine J_iload_n C rfl dJ8_newLength_cabcc_9 ?_
  refine J_nicmp_ge C (by first | omega | (dsimp only; omega)) (by first | omega | (dsimp only; omega)) 21 (by decide) dJ8_newLength_cabcc_10 (fun z1 => ?_) (fun z1 => ?_)
  · omega
  · refine J_iload_n C rfl dJ8_newLength_cabcc_13 ?_
    refine J_ldc C kc_J8_200 dJ8_newLength_cabcc_14 ?_
    refine J_icmp_gt C 21 (by decide) dJ8_newLength_cabcc_16 (fun z2 => ?_) (fun z2 => ?_)
    · refine absurd z2 ?_
      rw [show (2147483639 : Int32) = nI 2147483639 from rfl, nI_ltI (by decide) (by omega)]
      omega
    · refine J_iload_n C rfl dJ8_newLength_cabcc_19 ?_
      refine J_iret C D ⟨rfl, rfl⟩ (by omega) (by omega) dJ8_newLength_cabcc_20
end ALIST
end
