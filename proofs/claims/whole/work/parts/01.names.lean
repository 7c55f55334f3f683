-- ===== PART A: goes FIRST, ahead of the names: the tables' words, and 'selects' of the private methods out of them =====
/-- a private method of a class that the tables say can be made, by its rows of tables_1 -/
def lw_okq (q : MethodName × Nat) : Prop := (q.1.cls ≠ "java/lang/invoke/MethodHandle" ∧ q.1.cls ≠ "java/lang/invoke/VarHandle") ∧ Cond.instantiable q.1.cls q.2 ∈ tables_1 ∧ Cond.privateMethod q.1 ∈ tables_1 ∧ Cond.instanceMethod q.1 ∈ tables_1
theorem lw_p0 : lw_okq (⟨"TapeEnd", "rowAt", "(I)LTapeEnd$Row;"⟩, 11) := ⟨⟨by decide +kernel, by decide +kernel⟩, List.mem_of_getElem? (i := 17) (by decide +kernel), List.mem_of_getElem? (i := 230) (by decide +kernel), List.mem_of_getElem? (i := 231) (by decide +kernel)⟩
theorem lw_p1 : lw_okq (⟨"TapeEnd", "finding", "(I)I"⟩, 11) := ⟨⟨by decide +kernel, by decide +kernel⟩, List.mem_of_getElem? (i := 17) (by decide +kernel), List.mem_of_getElem? (i := 238) (by decide +kernel), List.mem_of_getElem? (i := 239) (by decide +kernel)⟩
theorem lw_p2 : lw_okq (⟨"TapeEnd", "unfound", "(I)I"⟩, 11) := ⟨⟨by decide +kernel, by decide +kernel⟩, List.mem_of_getElem? (i := 17) (by decide +kernel), List.mem_of_getElem? (i := 247) (by decide +kernel), List.mem_of_getElem? (i := 248) (by decide +kernel)⟩
theorem lw_p3 : lw_okq (⟨"TapeEnd$Tape", "readLaw", "(LTapeEnd$Law;)V"⟩, 4) := ⟨⟨by decide +kernel, by decide +kernel⟩, List.mem_of_getElem? (i := 27) (by decide +kernel), List.mem_of_getElem? (i := 293) (by decide +kernel), List.mem_of_getElem? (i := 294) (by decide +kernel)⟩
theorem lw_p4 : lw_okq (⟨"TapeEnd$Tape", "takeSign", "(I)V"⟩, 4) := ⟨⟨by decide +kernel, by decide +kernel⟩, List.mem_of_getElem? (i := 27) (by decide +kernel), List.mem_of_getElem? (i := 297) (by decide +kernel), List.mem_of_getElem? (i := 298) (by decide +kernel)⟩
theorem lw_p5 : lw_okq (⟨"TapeEnd$Tape", "letterHere", "()I"⟩, 4) := ⟨⟨by decide +kernel, by decide +kernel⟩, List.mem_of_getElem? (i := 27) (by decide +kernel), List.mem_of_getElem? (i := 301) (by decide +kernel), List.mem_of_getElem? (i := 302) (by decide +kernel)⟩
theorem lw_p6 : lw_okq (⟨"TapeEnd$Tape", "fail", "(I)V"⟩, 4) := ⟨⟨by decide +kernel, by decide +kernel⟩, List.mem_of_getElem? (i := 27) (by decide +kernel), List.mem_of_getElem? (i := 305) (by decide +kernel), List.mem_of_getElem? (i := 306) (by decide +kernel)⟩
theorem lw_p7 : lw_okq (⟨"TapeEnd$Tape", "takeNumber", "(II)I"⟩, 4) := ⟨⟨by decide +kernel, by decide +kernel⟩, List.mem_of_getElem? (i := 27) (by decide +kernel), List.mem_of_getElem? (i := 309) (by decide +kernel), List.mem_of_getElem? (i := 310) (by decide +kernel)⟩
theorem lw_p8 : lw_okq (⟨"TapeEnd$Tape", "figuresHere", "()I"⟩, 4) := ⟨⟨by decide +kernel, by decide +kernel⟩, List.mem_of_getElem? (i := 27) (by decide +kernel), List.mem_of_getElem? (i := 313) (by decide +kernel), List.mem_of_getElem? (i := 314) (by decide +kernel)⟩
theorem lw_p9 : lw_okq (⟨"TapeEnd$Tape", "readPlaces", "(LTapeEnd$Law;)V"⟩, 4) := ⟨⟨by decide +kernel, by decide +kernel⟩, List.mem_of_getElem? (i := 27) (by decide +kernel), List.mem_of_getElem? (i := 317) (by decide +kernel), List.mem_of_getElem? (i := 318) (by decide +kernel)⟩
theorem lw_p10 : lw_okq (⟨"TapeEnd$Tape", "readRidge", "(LTapeEnd$Law;)V"⟩, 4) := ⟨⟨by decide +kernel, by decide +kernel⟩, List.mem_of_getElem? (i := 27) (by decide +kernel), List.mem_of_getElem? (i := 321) (by decide +kernel), List.mem_of_getElem? (i := 322) (by decide +kernel)⟩
theorem lw_p11 : lw_okq (⟨"TapeEnd$Tape", "readSeeker", "(LTapeEnd$Law;)V"⟩, 4) := ⟨⟨by decide +kernel, by decide +kernel⟩, List.mem_of_getElem? (i := 27) (by decide +kernel), List.mem_of_getElem? (i := 328) (by decide +kernel), List.mem_of_getElem? (i := 329) (by decide +kernel)⟩
theorem lw_p12 : lw_okq (⟨"TapeEnd", "forgetActs", "()V"⟩, 11) := ⟨⟨by decide +kernel, by decide +kernel⟩, List.mem_of_getElem? (i := 17) (by decide +kernel), List.mem_of_getElem? (i := 408) (by decide +kernel), List.mem_of_getElem? (i := 409) (by decide +kernel)⟩
theorem lw_p13 : lw_okq (⟨"TapeEnd", "seekerAt", "(I)LTapeEnd$Seeker;"⟩, 11) := ⟨⟨by decide +kernel, by decide +kernel⟩, List.mem_of_getElem? (i := 17) (by decide +kernel), List.mem_of_getElem? (i := 430) (by decide +kernel), List.mem_of_getElem? (i := 431) (by decide +kernel)⟩
theorem lw_p14 : lw_okq (⟨"TapeEnd", "keepAct", "()V"⟩, 11) := ⟨⟨by decide +kernel, by decide +kernel⟩, List.mem_of_getElem? (i := 17) (by decide +kernel), List.mem_of_getElem? (i := 460) (by decide +kernel), List.mem_of_getElem? (i := 461) (by decide +kernel)⟩
theorem lw_p15 : lw_okq (⟨"TapeEnd", "noRoll", "()Z"⟩, 11) := ⟨⟨by decide +kernel, by decide +kernel⟩, List.mem_of_getElem? (i := 17) (by decide +kernel), List.mem_of_getElem? (i := 468) (by decide +kernel), List.mem_of_getElem? (i := 469) (by decide +kernel)⟩
def lw_privs_1 : List (MethodName × Nat) := [(⟨"TapeEnd", "rowAt", "(I)LTapeEnd$Row;"⟩, 11), (⟨"TapeEnd", "finding", "(I)I"⟩, 11), (⟨"TapeEnd", "unfound", "(I)I"⟩, 11), (⟨"TapeEnd$Tape", "readLaw", "(LTapeEnd$Law;)V"⟩, 4), (⟨"TapeEnd$Tape", "takeSign", "(I)V"⟩, 4), (⟨"TapeEnd$Tape", "letterHere", "()I"⟩, 4), (⟨"TapeEnd$Tape", "fail", "(I)V"⟩, 4), (⟨"TapeEnd$Tape", "takeNumber", "(II)I"⟩, 4), (⟨"TapeEnd$Tape", "figuresHere", "()I"⟩, 4), (⟨"TapeEnd$Tape", "readPlaces", "(LTapeEnd$Law;)V"⟩, 4), (⟨"TapeEnd$Tape", "readRidge", "(LTapeEnd$Law;)V"⟩, 4), (⟨"TapeEnd$Tape", "readSeeker", "(LTapeEnd$Law;)V"⟩, 4), (⟨"TapeEnd", "forgetActs", "()V"⟩, 11), (⟨"TapeEnd", "seekerAt", "(I)LTapeEnd$Seeker;"⟩, 11), (⟨"TapeEnd", "keepAct", "()V"⟩, 11), (⟨"TapeEnd", "noRoll", "()Z"⟩, 11)]
theorem lw_r1 : ∀ q ∈ lw_privs_1, lw_okq q := List.forall_mem_cons.mpr ⟨lw_p0, List.forall_mem_cons.mpr ⟨lw_p1, List.forall_mem_cons.mpr ⟨lw_p2, List.forall_mem_cons.mpr ⟨lw_p3, List.forall_mem_cons.mpr ⟨lw_p4, List.forall_mem_cons.mpr ⟨lw_p5, List.forall_mem_cons.mpr ⟨lw_p6, List.forall_mem_cons.mpr ⟨lw_p7, List.forall_mem_cons.mpr ⟨lw_p8, List.forall_mem_cons.mpr ⟨lw_p9, List.forall_mem_cons.mpr ⟨lw_p10, List.forall_mem_cons.mpr ⟨lw_p11, List.forall_mem_cons.mpr ⟨lw_p12, List.forall_mem_cons.mpr ⟨lw_p13, List.forall_mem_cons.mpr ⟨lw_p14, List.forall_mem_cons.mpr ⟨lw_p15, fun _ h => absurd h List.not_mem_nil⟩⟩⟩⟩⟩⟩⟩⟩⟩⟩⟩⟩⟩⟩⟩⟩
theorem lw_p16 : lw_okq (⟨"TapeEnd", "isPlace", "(I)Z"⟩, 11) := ⟨⟨by decide +kernel, by decide +kernel⟩, List.mem_of_getElem? (i := 17) (by decide +kernel), List.mem_of_getElem? (i := 535) (by decide +kernel), List.mem_of_getElem? (i := 536) (by decide +kernel)⟩
theorem lw_p17 : lw_okq (⟨"TapeEnd", "isPlaceOrNone", "(I)Z"⟩, 11) := ⟨⟨by decide +kernel, by decide +kernel⟩, List.mem_of_getElem? (i := 17) (by decide +kernel), List.mem_of_getElem? (i := 556) (by decide +kernel), List.mem_of_getElem? (i := 557) (by decide +kernel)⟩
theorem lw_p18 : lw_okq (⟨"TapeEnd$Roll", "secondsTill", "(I)I"⟩, 8) := ⟨⟨by decide +kernel, by decide +kernel⟩, List.mem_of_getElem? (i := 119) (by decide +kernel), List.mem_of_getElem? (i := 596) (by decide +kernel), List.mem_of_getElem? (i := 597) (by decide +kernel)⟩
theorem lw_p19 : lw_okq (⟨"TapeEnd$Roll", "secondsIfAt", "(III)J"⟩, 8) := ⟨⟨by decide +kernel, by decide +kernel⟩, List.mem_of_getElem? (i := 119) (by decide +kernel), List.mem_of_getElem? (i := 600) (by decide +kernel), List.mem_of_getElem? (i := 601) (by decide +kernel)⟩
theorem lw_p20 : lw_okq (⟨"TapeEnd", "goesSo", "(LTapeEnd$Seeker;LTapeEnd$Row;II)Z"⟩, 11) := ⟨⟨by decide +kernel, by decide +kernel⟩, List.mem_of_getElem? (i := 17) (by decide +kernel), List.mem_of_getElem? (i := 643) (by decide +kernel), List.mem_of_getElem? (i := 644) (by decide +kernel)⟩
theorem lw_p21 : lw_okq (⟨"TapeEnd", "walkByWords", "(LTapeEnd$Seeker;LTapeEnd$Row;II)V"⟩, 11) := ⟨⟨by decide +kernel, by decide +kernel⟩, List.mem_of_getElem? (i := 17) (by decide +kernel), List.mem_of_getElem? (i := 651) (by decide +kernel), List.mem_of_getElem? (i := 652) (by decide +kernel)⟩
theorem lw_p22 : lw_okq (⟨"TapeEnd", "rowsThere", "()I"⟩, 11) := ⟨⟨by decide +kernel, by decide +kernel⟩, List.mem_of_getElem? (i := 17) (by decide +kernel), List.mem_of_getElem? (i := 782) (by decide +kernel), List.mem_of_getElem? (i := 783) (by decide +kernel)⟩
theorem lw_p23 : lw_okq (⟨"TapeEndModel", "finding", "(I)I"⟩, 26) := ⟨⟨by decide +kernel, by decide +kernel⟩, List.mem_of_getElem? (i := 790) (by decide +kernel), List.mem_of_getElem? (i := 889) (by decide +kernel), List.mem_of_getElem? (i := 890) (by decide +kernel)⟩
theorem lw_p24 : lw_okq (⟨"TapeEndModel", "beginText", "()V"⟩, 26) := ⟨⟨by decide +kernel, by decide +kernel⟩, List.mem_of_getElem? (i := 790) (by decide +kernel), List.mem_of_getElem? (i := 920) (by decide +kernel), List.mem_of_getElem? (i := 921) (by decide +kernel)⟩
theorem lw_p25 : lw_okq (⟨"TapeEndModel", "nextToken", "()V"⟩, 26) := ⟨⟨by decide +kernel, by decide +kernel⟩, List.mem_of_getElem? (i := 790) (by decide +kernel), List.mem_of_getElem? (i := 924) (by decide +kernel), List.mem_of_getElem? (i := 925) (by decide +kernel)⟩
theorem lw_p26 : lw_okq (⟨"TapeEndModel", "isLetter", "(I)Z"⟩, 26) := ⟨⟨by decide +kernel, by decide +kernel⟩, List.mem_of_getElem? (i := 790) (by decide +kernel), List.mem_of_getElem? (i := 933) (by decide +kernel), List.mem_of_getElem? (i := 934) (by decide +kernel)⟩
theorem lw_p27 : lw_okq (⟨"TapeEndModel", "must", "(Z)V"⟩, 26) := ⟨⟨by decide +kernel, by decide +kernel⟩, List.mem_of_getElem? (i := 790) (by decide +kernel), List.mem_of_getElem? (i := 937) (by decide +kernel), List.mem_of_getElem? (i := 938) (by decide +kernel)⟩
theorem lw_p28 : lw_okq (⟨"TapeEndModel", "bad", "(I)V"⟩, 26) := ⟨⟨by decide +kernel, by decide +kernel⟩, List.mem_of_getElem? (i := 790) (by decide +kernel), List.mem_of_getElem? (i := 941) (by decide +kernel), List.mem_of_getElem? (i := 942) (by decide +kernel)⟩
theorem lw_p29 : lw_okq (⟨"TapeEndModel", "number", "(II)I"⟩, 26) := ⟨⟨by decide +kernel, by decide +kernel⟩, List.mem_of_getElem? (i := 790) (by decide +kernel), List.mem_of_getElem? (i := 945) (by decide +kernel), List.mem_of_getElem? (i := 946) (by decide +kernel)⟩
theorem lw_p30 : lw_okq (⟨"TapeEndModel", "mustSign", "(I)V"⟩, 26) := ⟨⟨by decide +kernel, by decide +kernel⟩, List.mem_of_getElem? (i := 790) (by decide +kernel), List.mem_of_getElem? (i := 949) (by decide +kernel), List.mem_of_getElem? (i := 950) (by decide +kernel)⟩
theorem lw_p31 : lw_okq (⟨"TapeEndModel", "readPlaces", "()V"⟩, 26) := ⟨⟨by decide +kernel, by decide +kernel⟩, List.mem_of_getElem? (i := 790) (by decide +kernel), List.mem_of_getElem? (i := 953) (by decide +kernel), List.mem_of_getElem? (i := 954) (by decide +kernel)⟩
def lw_privs_2 : List (MethodName × Nat) := [(⟨"TapeEnd", "isPlace", "(I)Z"⟩, 11), (⟨"TapeEnd", "isPlaceOrNone", "(I)Z"⟩, 11), (⟨"TapeEnd$Roll", "secondsTill", "(I)I"⟩, 8), (⟨"TapeEnd$Roll", "secondsIfAt", "(III)J"⟩, 8), (⟨"TapeEnd", "goesSo", "(LTapeEnd$Seeker;LTapeEnd$Row;II)Z"⟩, 11), (⟨"TapeEnd", "walkByWords", "(LTapeEnd$Seeker;LTapeEnd$Row;II)V"⟩, 11), (⟨"TapeEnd", "rowsThere", "()I"⟩, 11), (⟨"TapeEndModel", "finding", "(I)I"⟩, 26), (⟨"TapeEndModel", "beginText", "()V"⟩, 26), (⟨"TapeEndModel", "nextToken", "()V"⟩, 26), (⟨"TapeEndModel", "isLetter", "(I)Z"⟩, 26), (⟨"TapeEndModel", "must", "(Z)V"⟩, 26), (⟨"TapeEndModel", "bad", "(I)V"⟩, 26), (⟨"TapeEndModel", "number", "(II)I"⟩, 26), (⟨"TapeEndModel", "mustSign", "(I)V"⟩, 26), (⟨"TapeEndModel", "readPlaces", "()V"⟩, 26)]
theorem lw_r2 : ∀ q ∈ lw_privs_2, lw_okq q := List.forall_mem_cons.mpr ⟨lw_p16, List.forall_mem_cons.mpr ⟨lw_p17, List.forall_mem_cons.mpr ⟨lw_p18, List.forall_mem_cons.mpr ⟨lw_p19, List.forall_mem_cons.mpr ⟨lw_p20, List.forall_mem_cons.mpr ⟨lw_p21, List.forall_mem_cons.mpr ⟨lw_p22, List.forall_mem_cons.mpr ⟨lw_p23, List.forall_mem_cons.mpr ⟨lw_p24, List.forall_mem_cons.mpr ⟨lw_p25, List.forall_mem_cons.mpr ⟨lw_p26, List.forall_mem_cons.mpr ⟨lw_p27, List.forall_mem_cons.mpr ⟨lw_p28, List.forall_mem_cons.mpr ⟨lw_p29, List.forall_mem_cons.mpr ⟨lw_p30, List.forall_mem_cons.mpr ⟨lw_p31, fun _ h => absurd h List.not_mem_nil⟩⟩⟩⟩⟩⟩⟩⟩⟩⟩⟩⟩⟩⟩⟩⟩
theorem lw_p32 : lw_okq (⟨"TapeEndModel", "readRidge", "()V"⟩, 26) := ⟨⟨by decide +kernel, by decide +kernel⟩, List.mem_of_getElem? (i := 790) (by decide +kernel), List.mem_of_getElem? (i := 957) (by decide +kernel), List.mem_of_getElem? (i := 958) (by decide +kernel)⟩
theorem lw_p33 : lw_okq (⟨"TapeEndModel", "readSeeker", "()V"⟩, 26) := ⟨⟨by decide +kernel, by decide +kernel⟩, List.mem_of_getElem? (i := 790) (by decide +kernel), List.mem_of_getElem? (i := 964) (by decide +kernel), List.mem_of_getElem? (i := 965) (by decide +kernel)⟩
theorem lw_p34 : lw_okq (⟨"TapeEndModel", "failed", "()Z"⟩, 26) := ⟨⟨by decide +kernel, by decide +kernel⟩, List.mem_of_getElem? (i := 790) (by decide +kernel), List.mem_of_getElem? (i := 968) (by decide +kernel), List.mem_of_getElem? (i := 969) (by decide +kernel)⟩
theorem lw_p35 : lw_okq (⟨"TapeEndModel", "isSeeker", "(I)Z"⟩, 26) := ⟨⟨by decide +kernel, by decide +kernel⟩, List.mem_of_getElem? (i := 790) (by decide +kernel), List.mem_of_getElem? (i := 977) (by decide +kernel), List.mem_of_getElem? (i := 978) (by decide +kernel)⟩
theorem lw_p36 : lw_okq (⟨"TapeEndModel", "speaks", "(IIII)I"⟩, 26) := ⟨⟨by decide +kernel, by decide +kernel⟩, List.mem_of_getElem? (i := 790) (by decide +kernel), List.mem_of_getElem? (i := 981) (by decide +kernel), List.mem_of_getElem? (i := 982) (by decide +kernel)⟩
theorem lw_p37 : lw_okq (⟨"TapeEndModel", "feel", "(II)I"⟩, 26) := ⟨⟨by decide +kernel, by decide +kernel⟩, List.mem_of_getElem? (i := 790) (by decide +kernel), List.mem_of_getElem? (i := 985) (by decide +kernel), List.mem_of_getElem? (i := 986) (by decide +kernel)⟩
theorem lw_p38 : lw_okq (⟨"TapeEndModel", "of", "(II)I"⟩, 26) := ⟨⟨by decide +kernel, by decide +kernel⟩, List.mem_of_getElem? (i := 790) (by decide +kernel), List.mem_of_getElem? (i := 989) (by decide +kernel), List.mem_of_getElem? (i := 990) (by decide +kernel)⟩
theorem lw_p39 : lw_okq (⟨"TapeEndModel", "keep", "()V"⟩, 26) := ⟨⟨by decide +kernel, by decide +kernel⟩, List.mem_of_getElem? (i := 790) (by decide +kernel), List.mem_of_getElem? (i := 994) (by decide +kernel), List.mem_of_getElem? (i := 995) (by decide +kernel)⟩
theorem lw_p40 : lw_okq (⟨"TapeEndModel", "isThere", "()Z"⟩, 26) := ⟨⟨by decide +kernel, by decide +kernel⟩, List.mem_of_getElem? (i := 790) (by decide +kernel), List.mem_of_getElem? (i := 1002) (by decide +kernel), List.mem_of_getElem? (i := 1003) (by decide +kernel)⟩
theorem lw_p41 : lw_okq (⟨"TapeEndModel", "around", "(I)I"⟩, 26) := ⟨⟨by decide +kernel, by decide +kernel⟩, List.mem_of_getElem? (i := 790) (by decide +kernel), List.mem_of_getElem? (i := 1007) (by decide +kernel), List.mem_of_getElem? (i := 1008) (by decide +kernel)⟩
theorem lw_p42 : lw_okq (⟨"TapeEndModel", "nextNow", "(I)I"⟩, 26) := ⟨⟨by decide +kernel, by decide +kernel⟩, List.mem_of_getElem? (i := 790) (by decide +kernel), List.mem_of_getElem? (i := 1019) (by decide +kernel), List.mem_of_getElem? (i := 1020) (by decide +kernel)⟩
theorem lw_p43 : lw_okq (⟨"TapeEndModel", "nextOf", "(III)I"⟩, 26) := ⟨⟨by decide +kernel, by decide +kernel⟩, List.mem_of_getElem? (i := 790) (by decide +kernel), List.mem_of_getElem? (i := 1023) (by decide +kernel), List.mem_of_getElem? (i := 1024) (by decide +kernel)⟩
theorem lw_p44 : lw_okq (⟨"TapeEndModel", "likeliestBut", "(I)I"⟩, 26) := ⟨⟨by decide +kernel, by decide +kernel⟩, List.mem_of_getElem? (i := 790) (by decide +kernel), List.mem_of_getElem? (i := 1027) (by decide +kernel), List.mem_of_getElem? (i := 1028) (by decide +kernel)⟩
theorem lw_p45 : lw_okq (⟨"TapeEndModel", "isPlace", "(I)Z"⟩, 26) := ⟨⟨by decide +kernel, by decide +kernel⟩, List.mem_of_getElem? (i := 790) (by decide +kernel), List.mem_of_getElem? (i := 1035) (by decide +kernel), List.mem_of_getElem? (i := 1036) (by decide +kernel)⟩
theorem lw_p46 : lw_okq (⟨"TapeEndModel", "allLike", "()J"⟩, 26) := ⟨⟨by decide +kernel, by decide +kernel⟩, List.mem_of_getElem? (i := 790) (by decide +kernel), List.mem_of_getElem? (i := 1066) (by decide +kernel), List.mem_of_getElem? (i := 1067) (by decide +kernel)⟩
theorem lw_p47 : lw_okq (⟨"TapeEndModel", "meanOf", "(IIII)J"⟩, 26) := ⟨⟨by decide +kernel, by decide +kernel⟩, List.mem_of_getElem? (i := 790) (by decide +kernel), List.mem_of_getElem? (i := 1089) (by decide +kernel), List.mem_of_getElem? (i := 1090) (by decide +kernel)⟩
def lw_privs_3 : List (MethodName × Nat) := [(⟨"TapeEndModel", "readRidge", "()V"⟩, 26), (⟨"TapeEndModel", "readSeeker", "()V"⟩, 26), (⟨"TapeEndModel", "failed", "()Z"⟩, 26), (⟨"TapeEndModel", "isSeeker", "(I)Z"⟩, 26), (⟨"TapeEndModel", "speaks", "(IIII)I"⟩, 26), (⟨"TapeEndModel", "feel", "(II)I"⟩, 26), (⟨"TapeEndModel", "of", "(II)I"⟩, 26), (⟨"TapeEndModel", "keep", "()V"⟩, 26), (⟨"TapeEndModel", "isThere", "()Z"⟩, 26), (⟨"TapeEndModel", "around", "(I)I"⟩, 26), (⟨"TapeEndModel", "nextNow", "(I)I"⟩, 26), (⟨"TapeEndModel", "nextOf", "(III)I"⟩, 26), (⟨"TapeEndModel", "likeliestBut", "(I)I"⟩, 26), (⟨"TapeEndModel", "isPlace", "(I)Z"⟩, 26), (⟨"TapeEndModel", "allLike", "()J"⟩, 26), (⟨"TapeEndModel", "meanOf", "(IIII)J"⟩, 26)]
theorem lw_r3 : ∀ q ∈ lw_privs_3, lw_okq q := List.forall_mem_cons.mpr ⟨lw_p32, List.forall_mem_cons.mpr ⟨lw_p33, List.forall_mem_cons.mpr ⟨lw_p34, List.forall_mem_cons.mpr ⟨lw_p35, List.forall_mem_cons.mpr ⟨lw_p36, List.forall_mem_cons.mpr ⟨lw_p37, List.forall_mem_cons.mpr ⟨lw_p38, List.forall_mem_cons.mpr ⟨lw_p39, List.forall_mem_cons.mpr ⟨lw_p40, List.forall_mem_cons.mpr ⟨lw_p41, List.forall_mem_cons.mpr ⟨lw_p42, List.forall_mem_cons.mpr ⟨lw_p43, List.forall_mem_cons.mpr ⟨lw_p44, List.forall_mem_cons.mpr ⟨lw_p45, List.forall_mem_cons.mpr ⟨lw_p46, List.forall_mem_cons.mpr ⟨lw_p47, fun _ h => absurd h List.not_mem_nil⟩⟩⟩⟩⟩⟩⟩⟩⟩⟩⟩⟩⟩⟩⟩⟩
theorem lw_p48 : lw_okq (⟨"TapeEndModel", "isHis", "(III)Z"⟩, 26) := ⟨⟨by decide +kernel, by decide +kernel⟩, List.mem_of_getElem? (i := 790) (by decide +kernel), List.mem_of_getElem? (i := 1132) (by decide +kernel), List.mem_of_getElem? (i := 1133) (by decide +kernel)⟩
theorem lw_p49 : lw_okq (⟨"TapeEndModel", "notBy", "(IIII)J"⟩, 26) := ⟨⟨by decide +kernel, by decide +kernel⟩, List.mem_of_getElem? (i := 790) (by decide +kernel), List.mem_of_getElem? (i := 1141) (by decide +kernel), List.mem_of_getElem? (i := 1142) (by decide +kernel)⟩
theorem lw_p50 : lw_okq (⟨"TapeEndModel", "sizeOf", "(I)I"⟩, 26) := ⟨⟨by decide +kernel, by decide +kernel⟩, List.mem_of_getElem? (i := 790) (by decide +kernel), List.mem_of_getElem? (i := 1175) (by decide +kernel), List.mem_of_getElem? (i := 1176) (by decide +kernel)⟩
theorem lw_p51 : lw_okq (⟨"TapeEndModel", "likeSize", "(I)I"⟩, 26) := ⟨⟨by decide +kernel, by decide +kernel⟩, List.mem_of_getElem? (i := 790) (by decide +kernel), List.mem_of_getElem? (i := 1179) (by decide +kernel), List.mem_of_getElem? (i := 1180) (by decide +kernel)⟩
theorem lw_p52 : lw_okq (⟨"TapeEndModel", "began", "(I)V"⟩, 26) := ⟨⟨by decide +kernel, by decide +kernel⟩, List.mem_of_getElem? (i := 790) (by decide +kernel), List.mem_of_getElem? (i := 1183) (by decide +kernel), List.mem_of_getElem? (i := 1184) (by decide +kernel)⟩
theorem lw_p53 : lw_okq (⟨"TapeEndModel", "plainSize", "(I)I"⟩, 26) := ⟨⟨by decide +kernel, by decide +kernel⟩, List.mem_of_getElem? (i := 790) (by decide +kernel), List.mem_of_getElem? (i := 1187) (by decide +kernel), List.mem_of_getElem? (i := 1188) (by decide +kernel)⟩
theorem lw_p54 : lw_okq (⟨"TapeEndModel", "markOf", "(I)I"⟩, 26) := ⟨⟨by decide +kernel, by decide +kernel⟩, List.mem_of_getElem? (i := 790) (by decide +kernel), List.mem_of_getElem? (i := 1191) (by decide +kernel), List.mem_of_getElem? (i := 1192) (by decide +kernel)⟩
def lw_privs_4 : List (MethodName × Nat) := [(⟨"TapeEndModel", "isHis", "(III)Z"⟩, 26), (⟨"TapeEndModel", "notBy", "(IIII)J"⟩, 26), (⟨"TapeEndModel", "sizeOf", "(I)I"⟩, 26), (⟨"TapeEndModel", "likeSize", "(I)I"⟩, 26), (⟨"TapeEndModel", "began", "(I)V"⟩, 26), (⟨"TapeEndModel", "plainSize", "(I)I"⟩, 26), (⟨"TapeEndModel", "markOf", "(I)I"⟩, 26)]
theorem lw_r4 : ∀ q ∈ lw_privs_4, lw_okq q := List.forall_mem_cons.mpr ⟨lw_p48, List.forall_mem_cons.mpr ⟨lw_p49, List.forall_mem_cons.mpr ⟨lw_p50, List.forall_mem_cons.mpr ⟨lw_p51, List.forall_mem_cons.mpr ⟨lw_p52, List.forall_mem_cons.mpr ⟨lw_p53, List.forall_mem_cons.mpr ⟨lw_p54, fun _ h => absurd h List.not_mem_nil⟩⟩⟩⟩⟩⟩⟩
def lw_privs : List (MethodName × Nat) := lw_privs_1 ++ (lw_privs_2 ++ (lw_privs_3 ++ (lw_privs_4)))
def lw_tbl : List Cond := k2_sels lw_privs ++ tables_1
theorem lw_privs_ok : ∀ q ∈ lw_privs, lw_okq q := by
  show ∀ q ∈ lw_privs_1 ++ (lw_privs_2 ++ (lw_privs_3 ++ (lw_privs_4))), lw_okq q
  exact List.forall_mem_append.mpr ⟨lw_r1, List.forall_mem_append.mpr ⟨lw_r2, List.forall_mem_append.mpr ⟨lw_r3, lw_r4⟩⟩⟩

def RX0 : String := "TapeEnd$Back"
def TX0 : u_T := fun k => match k with
  | 0 => ("TapeEnd$Seeker", "number", "I", true)
  | 1 => ("TapeEnd$Seeker", "with", "I", true)
  | _ => ("TapeEnd$Seeker", "against", "I", true)
def tyX0 : Nat → FieldType := fun k => match k with
  | 0 => .int
  | 1 => .int
  | _ => .int
abbrev wsX00 : List Cond := u_ws RX0 TX0 3
theorem nmX0 : ∀ a, a < 3 → ∀ b, b < 3 → a ≠ b → (TX0 a).2.1 ≠ (TX0 b).2.1 := by decide +kernel
theorem tyX0_ok : ∀ k, k < 3 → parseFieldDescriptor (TX0 k).2.2.1 = some (tyX0 k) := by decide +kernel
abbrev cX0_init : ByteArray := prog_2_method_1_code
def yX0_init : MethodName := ⟨RX0, "<init>", "(III)V"⟩
abbrev cX0_kindTold : ByteArray := prog_2_method_2_code
def yX0_kindTold : MethodName := ⟨RX0, "kindTold", "()I"⟩
abbrev cX0_nextPlace : ByteArray := prog_2_method_3_code
def yX0_nextPlace : MethodName := ⟨RX0, "nextPlace", "(LTapeEnd$Roll;)I"⟩
abbrev cX0_askSize : ByteArray := prog_2_method_4_code
def yX0_askSize : MethodName := ⟨RX0, "askSize", "(LTapeEnd$Trace;)I"⟩
abbrev cX0_askMark : ByteArray := prog_2_method_5_code
def yX0_askMark : MethodName := ⟨RX0, "askMark", "(LTapeEnd$Trace;)I"⟩
def RX1 : String := "TapeEnd$Lamp"
def TX1 : u_T := fun k => match k with
  | 0 => ("TapeEnd$Seeker", "number", "I", true)
  | 1 => ("TapeEnd$Seeker", "with", "I", true)
  | _ => ("TapeEnd$Seeker", "against", "I", true)
def tyX1 : Nat → FieldType := fun k => match k with
  | 0 => .int
  | 1 => .int
  | _ => .int
abbrev wsX10 : List Cond := u_ws RX1 TX1 3
theorem nmX1 : ∀ a, a < 3 → ∀ b, b < 3 → a ≠ b → (TX1 a).2.1 ≠ (TX1 b).2.1 := by decide +kernel
theorem tyX1_ok : ∀ k, k < 3 → parseFieldDescriptor (TX1 k).2.2.1 = some (tyX1 k) := by decide +kernel
abbrev cX1_init : ByteArray := prog_3_method_1_code
def yX1_init : MethodName := ⟨RX1, "<init>", "(III)V"⟩
abbrev cX1_kindTold : ByteArray := prog_3_method_2_code
def yX1_kindTold : MethodName := ⟨RX1, "kindTold", "()I"⟩
abbrev cX1_feel : ByteArray := prog_3_method_3_code
def yX1_feel : MethodName := ⟨RX1, "feel", "(I)I"⟩
abbrev cX1_askMark : ByteArray := prog_3_method_4_code
def yX1_askMark : MethodName := ⟨RX1, "askMark", "(LTapeEnd$Trace;)I"⟩
def RX2 : String := "TapeEnd$Law"
def TX2 : u_T := fun k => match k with
  | 0 => ("TapeEnd$Law", "weights", "[I", true)
  | 1 => ("TapeEnd$Law", "chances", "[I", true)
  | 2 => ("TapeEnd$Law", "seekers", "[LTapeEnd$Seeker;", true)
  | 3 => ("TapeEnd$Law", "places", "I", false)
  | 4 => ("TapeEnd$Law", "step", "I", false)
  | 5 => ("TapeEnd$Law", "over", "I", false)
  | 6 => ("TapeEnd$Law", "missing", "I", false)
  | 7 => ("TapeEnd$Law", "ridges", "I", false)
  | _ => ("TapeEnd$Law", "seekersTold", "I", false)
def tyX2 : Nat → FieldType := fun k => match k with
  | 0 => .array .int
  | 1 => .array .int
  | 2 => .array (.object "TapeEnd$Seeker")
  | 3 => .int
  | 4 => .int
  | 5 => .int
  | 6 => .int
  | 7 => .int
  | _ => .int
abbrev wsX20 : List Cond := u_ws RX2 TX2 9
theorem nmX2 : ∀ a, a < 9 → ∀ b, b < 9 → a ≠ b → (TX2 a).2.1 ≠ (TX2 b).2.1 := by decide +kernel
theorem tyX2_ok : ∀ k, k < 9 → parseFieldDescriptor (TX2 k).2.2.1 = some (tyX2 k) := by decide +kernel
abbrev cX2_init : ByteArray := prog_4_method_1_code
def yX2_init : MethodName := ⟨RX2, "<init>", "()V"⟩
abbrev cX2_around : ByteArray := prog_4_method_2_code
def yX2_around : MethodName := ⟨RX2, "around", "(I)I"⟩
abbrev cX2_placeOfDraw : ByteArray := prog_4_method_3_code
def yX2_placeOfDraw : MethodName := ⟨RX2, "placeOfDraw", "(J)I"⟩
def RX3 : String := "TapeEnd$Likeliest"
def TX3 : u_T := fun k => match k with
  | 0 => ("TapeEnd$Seeker", "number", "I", true)
  | 1 => ("TapeEnd$Seeker", "with", "I", true)
  | _ => ("TapeEnd$Seeker", "against", "I", true)
def tyX3 : Nat → FieldType := fun k => match k with
  | 0 => .int
  | 1 => .int
  | _ => .int
abbrev wsX30 : List Cond := u_ws RX3 TX3 3
theorem nmX3 : ∀ a, a < 3 → ∀ b, b < 3 → a ≠ b → (TX3 a).2.1 ≠ (TX3 b).2.1 := by decide +kernel
theorem tyX3_ok : ∀ k, k < 3 → parseFieldDescriptor (TX3 k).2.2.1 = some (tyX3 k) := by decide +kernel
abbrev cX3_init : ByteArray := prog_5_method_1_code
def yX3_init : MethodName := ⟨RX3, "<init>", "(III)V"⟩
abbrev cX3_kindTold : ByteArray := prog_5_method_2_code
def yX3_kindTold : MethodName := ⟨RX3, "kindTold", "()I"⟩
abbrev cX3_nextPlace : ByteArray := prog_5_method_3_code
def yX3_nextPlace : MethodName := ⟨RX3, "nextPlace", "(LTapeEnd$Roll;)I"⟩
abbrev cX3_askSize : ByteArray := prog_5_method_4_code
def yX3_askSize : MethodName := ⟨RX3, "askSize", "(LTapeEnd$Trace;)I"⟩
abbrev cX3_askMark : ByteArray := prog_5_method_5_code
def yX3_askMark : MethodName := ⟨RX3, "askMark", "(LTapeEnd$Trace;)I"⟩
def RX4 : String := "TapeEnd$Roll"
def TX4 : u_T := fun k => match k with
  | 0 => ("TapeEnd$Roll", "likelihoods", "[J", true)
  | 1 => ("TapeEnd$Roll", "law", "LTapeEnd$Law;", false)
  | 2 => ("TapeEnd$Roll", "place", "I", false)
  | 3 => ("TapeEnd$Roll", "way", "I", false)
  | 4 => ("TapeEnd$Roll", "seconds", "I", false)
  | 5 => ("TapeEnd$Roll", "touches", "I", false)
  | 6 => ("TapeEnd$Roll", "lastFelt", "I", false)
  | _ => ("TapeEnd$Roll", "tab", "I", false)
def tyX4 : Nat → FieldType := fun k => match k with
  | 0 => .array .long
  | 1 => .object "TapeEnd$Law"
  | 2 => .int
  | 3 => .int
  | 4 => .int
  | 5 => .int
  | 6 => .int
  | _ => .int
abbrev wsX40 : List Cond := u_ws RX4 TX4 8
theorem nmX4 : ∀ a, a < 8 → ∀ b, b < 8 → a ≠ b → (TX4 a).2.1 ≠ (TX4 b).2.1 := by decide +kernel
theorem tyX4_ok : ∀ k, k < 8 → parseFieldDescriptor (TX4 k).2.2.1 = some (tyX4 k) := by decide +kernel
abbrev cX4_init : ByteArray := prog_6_method_1_code
def yX4_init : MethodName := ⟨RX4, "<init>", "(LTapeEnd$Law;)V"⟩
abbrev cX4_unwind : ByteArray := prog_6_method_2_code
def yX4_unwind : MethodName := ⟨RX4, "unwind", "(LTapeEnd$Law;)V"⟩
abbrev cX4_become : ByteArray := prog_6_method_3_code
def yX4_become : MethodName := ⟨RX4, "become", "(LTapeEnd$Roll;)V"⟩
abbrev cX4_together : ByteArray := prog_6_method_4_code
def yX4_together : MethodName := ⟨RX4, "together", "()J"⟩
abbrev cX4_takeTouch : ByteArray := prog_6_method_5_code
def yX4_takeTouch : MethodName := ⟨RX4, "takeTouch", "(LTapeEnd$Seeker;I)V"⟩
abbrev cX4_weigh : ByteArray := prog_6_method_6_code
def yX4_weigh : MethodName := ⟨RX4, "weigh", "(II)V"⟩
abbrev cX4_advance : ByteArray := prog_6_method_7_code
def yX4_advance : MethodName := ⟨RX4, "advance", "(I)V"⟩
abbrev cX4_turn : ByteArray := prog_6_method_8_code
def yX4_turn : MethodName := ⟨RX4, "turn", "()V"⟩
abbrev cX4_moveTo : ByteArray := prog_6_method_9_code
def yX4_moveTo : MethodName := ⟨RX4, "moveTo", "(I)V"⟩
abbrev cX4_follow : ByteArray := prog_6_method_10_code
def yX4_follow : MethodName := ⟨RX4, "follow", "(I)V"⟩
abbrev cX4_likeliestBut : ByteArray := prog_6_method_11_code
def yX4_likeliestBut : MethodName := ⟨RX4, "likeliestBut", "(I)I"⟩
abbrev cX4_secondsOfAll : ByteArray := prog_6_method_12_code
def yX4_secondsOfAll : MethodName := ⟨RX4, "secondsOfAll", "(LTapeEnd$Seeker;III)J"⟩
abbrev cX4_secondsIfAt : ByteArray := prog_6_method_13_code
def yX4_secondsIfAt : MethodName := ⟨RX4, "secondsIfAt", "(III)J"⟩
abbrev cX4_secondsTill : ByteArray := prog_6_method_14_code
def yX4_secondsTill : MethodName := ⟨RX4, "secondsTill", "(I)I"⟩
def RX5 : String := "TapeEnd$Round"
def TX5 : u_T := fun k => match k with
  | 0 => ("TapeEnd$Seeker", "number", "I", true)
  | 1 => ("TapeEnd$Seeker", "with", "I", true)
  | _ => ("TapeEnd$Seeker", "against", "I", true)
def tyX5 : Nat → FieldType := fun k => match k with
  | 0 => .int
  | 1 => .int
  | _ => .int
abbrev wsX50 : List Cond := u_ws RX5 TX5 3
theorem nmX5 : ∀ a, a < 3 → ∀ b, b < 3 → a ≠ b → (TX5 a).2.1 ≠ (TX5 b).2.1 := by decide +kernel
theorem tyX5_ok : ∀ k, k < 3 → parseFieldDescriptor (TX5 k).2.2.1 = some (tyX5 k) := by decide +kernel
abbrev cX5_init : ByteArray := prog_7_method_1_code
def yX5_init : MethodName := ⟨RX5, "<init>", "(III)V"⟩
abbrev cX5_kindTold : ByteArray := prog_7_method_2_code
def yX5_kindTold : MethodName := ⟨RX5, "kindTold", "()I"⟩
abbrev cX5_nextPlace : ByteArray := prog_7_method_3_code
def yX5_nextPlace : MethodName := ⟨RX5, "nextPlace", "(LTapeEnd$Roll;)I"⟩
abbrev cX5_askSize : ByteArray := prog_7_method_4_code
def yX5_askSize : MethodName := ⟨RX5, "askSize", "(LTapeEnd$Trace;)I"⟩
abbrev cX5_askMark : ByteArray := prog_7_method_5_code
def yX5_askMark : MethodName := ⟨RX5, "askMark", "(LTapeEnd$Trace;)I"⟩
def RX6 : String := "TapeEnd$Row"
def TX6 : u_T := fun k => match k with
  | 0 => ("TapeEnd$Row", "items", "[I", true)
  | 1 => ("TapeEnd$Row", "missing", "Z", false)
  | 2 => ("TapeEnd$Row", "lane", "I", false)
  | _ => ("TapeEnd$Row", "size", "I", false)
def tyX6 : Nat → FieldType := fun k => match k with
  | 0 => .array .int
  | 1 => .boolean
  | 2 => .int
  | _ => .int
abbrev wsX60 : List Cond := u_ws RX6 TX6 4
theorem nmX6 : ∀ a, a < 4 → ∀ b, b < 4 → a ≠ b → (TX6 a).2.1 ≠ (TX6 b).2.1 := by decide +kernel
theorem tyX6_ok : ∀ k, k < 4 → parseFieldDescriptor (TX6 k).2.2.1 = some (tyX6 k) := by decide +kernel
abbrev cX6_init : ByteArray := prog_8_method_1_code
def yX6_init : MethodName := ⟨RX6, "<init>", "()V"⟩
abbrev cX6_lay : ByteArray := prog_8_method_2_code
def yX6_lay : MethodName := ⟨RX6, "lay", "(II)V"⟩
abbrev cX6_holds : ByteArray := prog_8_method_3_code
def yX6_holds : MethodName := ⟨RX6, "holds", "(II)Z"⟩
abbrev cX6_areUpTo : ByteArray := prog_8_method_4_code
def yX6_areUpTo : MethodName := ⟨RX6, "areUpTo", "(III)Z"⟩
abbrev cX6_put : ByteArray := prog_8_method_5_code
def yX6_put : MethodName := ⟨RX6, "put", "(II)I"⟩
def RX7 : String := "TapeEnd$Seeker"
def TX7 : u_T := fun k => match k with
  | _ => ("", "", "", false)
def tyX7 : Nat → FieldType := fun k => match k with
  | _ => .int
abbrev wsX70 : List Cond := u_ws RX7 TX7 0
theorem nmX7 : ∀ a, a < 0 → ∀ b, b < 0 → a ≠ b → (TX7 a).2.1 ≠ (TX7 b).2.1 := by decide +kernel
theorem tyX7_ok : ∀ k, k < 0 → parseFieldDescriptor (TX7 k).2.2.1 = some (tyX7 k) := by decide +kernel
abbrev cX7_init : ByteArray := prog_9_method_1_code
def yX7_init : MethodName := ⟨RX7, "<init>", "(III)V"⟩
abbrev cX7_feel : ByteArray := prog_9_method_4_code
def yX7_feel : MethodName := ⟨RX7, "feel", "(I)I"⟩
abbrev cX7_askSize : ByteArray := prog_9_method_5_code
def yX7_askSize : MethodName := ⟨RX7, "askSize", "(LTapeEnd$Trace;)I"⟩
abbrev cX7_askMark : ByteArray := prog_9_method_6_code
def yX7_askMark : MethodName := ⟨RX7, "askMark", "(LTapeEnd$Trace;)I"⟩
def RX8 : String := "TapeEnd$Tabs"
def TX8 : u_T := fun k => match k with
  | 0 => ("TapeEnd$Seeker", "number", "I", true)
  | 1 => ("TapeEnd$Seeker", "with", "I", true)
  | _ => ("TapeEnd$Seeker", "against", "I", true)
def tyX8 : Nat → FieldType := fun k => match k with
  | 0 => .int
  | 1 => .int
  | _ => .int
abbrev wsX80 : List Cond := u_ws RX8 TX8 3
theorem nmX8 : ∀ a, a < 3 → ∀ b, b < 3 → a ≠ b → (TX8 a).2.1 ≠ (TX8 b).2.1 := by decide +kernel
theorem tyX8_ok : ∀ k, k < 3 → parseFieldDescriptor (TX8 k).2.2.1 = some (tyX8 k) := by decide +kernel
abbrev cX8_init : ByteArray := prog_10_method_1_code
def yX8_init : MethodName := ⟨RX8, "<init>", "(III)V"⟩
abbrev cX8_kindTold : ByteArray := prog_10_method_2_code
def yX8_kindTold : MethodName := ⟨RX8, "kindTold", "()I"⟩
abbrev cX8_nextPlace : ByteArray := prog_10_method_3_code
def yX8_nextPlace : MethodName := ⟨RX8, "nextPlace", "(LTapeEnd$Roll;)I"⟩
abbrev cX8_askSize : ByteArray := prog_10_method_4_code
def yX8_askSize : MethodName := ⟨RX8, "askSize", "(LTapeEnd$Trace;)I"⟩
def RX9 : String := "TapeEnd$Tape"
def TX9 : u_T := fun k => match k with
  | 0 => ("TapeEnd$Tape", "bytes", "[I", true)
  | 1 => ("TapeEnd$Tape", "size", "I", false)
  | 2 => ("TapeEnd$Tape", "at", "I", false)
  | _ => ("TapeEnd$Tape", "wrong", "I", false)
def tyX9 : Nat → FieldType := fun k => match k with
  | 0 => .array .int
  | 1 => .int
  | 2 => .int
  | _ => .int
abbrev wsX90 : List Cond := u_ws RX9 TX9 4
theorem nmX9 : ∀ a, a < 4 → ∀ b, b < 4 → a ≠ b → (TX9 a).2.1 ≠ (TX9 b).2.1 := by decide +kernel
theorem tyX9_ok : ∀ k, k < 4 → parseFieldDescriptor (TX9 k).2.2.1 = some (tyX9 k) := by decide +kernel
abbrev cX9_init : ByteArray := prog_11_method_1_code
def yX9_init : MethodName := ⟨RX9, "<init>", "()V"⟩
abbrev cX9_append : ByteArray := prog_11_method_2_code
def yX9_append : MethodName := ⟨RX9, "append", "(I)V"⟩
abbrev cX9_read : ByteArray := prog_11_method_3_code
def yX9_read : MethodName := ⟨RX9, "read", "()LTapeEnd$Law;"⟩
abbrev cX9_readLaw : ByteArray := prog_11_method_4_code
def yX9_readLaw : MethodName := ⟨RX9, "readLaw", "(LTapeEnd$Law;)V"⟩
abbrev cX9_readPlaces : ByteArray := prog_11_method_5_code
def yX9_readPlaces : MethodName := ⟨RX9, "readPlaces", "(LTapeEnd$Law;)V"⟩
abbrev cX9_readRidge : ByteArray := prog_11_method_6_code
def yX9_readRidge : MethodName := ⟨RX9, "readRidge", "(LTapeEnd$Law;)V"⟩
abbrev cX9_readSeeker : ByteArray := prog_11_method_7_code
def yX9_readSeeker : MethodName := ⟨RX9, "readSeeker", "(LTapeEnd$Law;)V"⟩
abbrev cX9_seekerOf : ByteArray := prog_11_method_8_code
def yX9_seekerOf : MethodName := ⟨RX9, "seekerOf", "(IIII)LTapeEnd$Seeker;"⟩
abbrev cX9_fail : ByteArray := prog_11_method_9_code
def yX9_fail : MethodName := ⟨RX9, "fail", "(I)V"⟩
abbrev cX9_letterHere : ByteArray := prog_11_method_10_code
def yX9_letterHere : MethodName := ⟨RX9, "letterHere", "()I"⟩
abbrev cX9_takeSign : ByteArray := prog_11_method_11_code
def yX9_takeSign : MethodName := ⟨RX9, "takeSign", "(I)V"⟩
abbrev cX9_takeNumber : ByteArray := prog_11_method_12_code
def yX9_takeNumber : MethodName := ⟨RX9, "takeNumber", "(II)I"⟩
abbrev cX9_figuresHere : ByteArray := prog_11_method_13_code
def yX9_figuresHere : MethodName := ⟨RX9, "figuresHere", "()I"⟩
abbrev cX9_isSort : ByteArray := prog_11_method_14_code
def yX9_isSort : MethodName := ⟨RX9, "isSort", "(I)Z"⟩
def RX10 : String := "TapeEnd$Trace"
def TX10 : u_T := fun k => match k with
  | 0 => ("TapeEnd$Trace", "numbers", "[I", true)
  | _ => ("TapeEnd$Trace", "size", "I", false)
def tyX10 : Nat → FieldType := fun k => match k with
  | 0 => .array .int
  | _ => .int
abbrev wsX100 : List Cond := u_ws RX10 TX10 2
theorem nmX10 : ∀ a, a < 2 → ∀ b, b < 2 → a ≠ b → (TX10 a).2.1 ≠ (TX10 b).2.1 := by decide +kernel
theorem tyX10_ok : ∀ k, k < 2 → parseFieldDescriptor (TX10 k).2.2.1 = some (tyX10 k) := by decide +kernel
abbrev cX10_init : ByteArray := prog_12_method_1_code
def yX10_init : MethodName := ⟨RX10, "<init>", "()V"⟩
abbrev cX10_leave : ByteArray := prog_12_method_2_code
def yX10_leave : MethodName := ⟨RX10, "leave", "(I)V"⟩
def RX11 : String := "TapeEnd"
def TX11 : u_T := fun k => match k with
  | 0 => ("TapeEnd", "rows", "[LTapeEnd$Row;", true)
  | 1 => ("TapeEnd", "tape", "LTapeEnd$Tape;", true)
  | 2 => ("TapeEnd", "trace", "LTapeEnd$Trace;", true)
  | 3 => ("TapeEnd", "roll", "LTapeEnd$Roll;", true)
  | 4 => ("TapeEnd", "trial", "LTapeEnd$Roll;", true)
  | 5 => ("TapeEnd", "images", "[LTapeEnd$Roll;", true)
  | 6 => ("TapeEnd", "acts", "[LTapeEnd$Roll;", true)
  | 7 => ("TapeEnd", "oldestAct", "I", false)
  | 8 => ("TapeEnd", "actsKept", "I", false)
  | 9 => ("TapeEnd", "latestFault", "I", false)
  | _ => ("TapeEnd", "latestFinding", "I", false)
def tyX11 : Nat → FieldType := fun k => match k with
  | 0 => .array (.object "TapeEnd$Row")
  | 1 => .object "TapeEnd$Tape"
  | 2 => .object "TapeEnd$Trace"
  | 3 => .object "TapeEnd$Roll"
  | 4 => .object "TapeEnd$Roll"
  | 5 => .array (.object "TapeEnd$Roll")
  | 6 => .array (.object "TapeEnd$Roll")
  | 7 => .int
  | 8 => .int
  | 9 => .int
  | _ => .int
abbrev wsX110 : List Cond := u_ws RX11 TX11 11
theorem nmX11 : ∀ a, a < 11 → ∀ b, b < 11 → a ≠ b → (TX11 a).2.1 ≠ (TX11 b).2.1 := by decide +kernel
theorem tyX11_ok : ∀ k, k < 11 → parseFieldDescriptor (TX11 k).2.2.1 = some (tyX11 k) := by decide +kernel
abbrev cX11_init : ByteArray := prog_1_method_1_code
def yX11_init : MethodName := ⟨RX11, "<init>", "()V"⟩
abbrev cX11_row : ByteArray := prog_1_method_2_code
def yX11_row : MethodName := ⟨RX11, "row", "(III)I"⟩
abbrev cX11_set : ByteArray := prog_1_method_3_code
def yX11_set : MethodName := ⟨RX11, "set", "(III)I"⟩
abbrev cX11_copy : ByteArray := prog_1_method_4_code
def yX11_copy : MethodName := ⟨RX11, "copy", "(IIIII)I"⟩
abbrev cX11_drop : ByteArray := prog_1_method_5_code
def yX11_drop : MethodName := ⟨RX11, "drop", "(I)I"⟩
abbrev cX11_feed : ByteArray := prog_1_method_6_code
def yX11_feed : MethodName := ⟨RX11, "feed", "(I)I"⟩
abbrev cX11_roll : ByteArray := prog_1_method_7_code
def yX11_roll : MethodName := ⟨RX11, "roll", "()I"⟩
abbrev cX11_fault : ByteArray := prog_1_method_8_code
def yX11_fault : MethodName := ⟨RX11, "fault", "()I"⟩
abbrev cX11_undo : ByteArray := prog_1_method_9_code
def yX11_undo : MethodName := ⟨RX11, "undo", "()I"⟩
abbrev cX11_touch : ByteArray := prog_1_method_10_code
def yX11_touch : MethodName := ⟨RX11, "touch", "(II)I"⟩
abbrev cX11_go : ByteArray := prog_1_method_11_code
def yX11_go : MethodName := ⟨RX11, "go", "(I)I"⟩
abbrev cX11_over : ByteArray := prog_1_method_12_code
def yX11_over : MethodName := ⟨RX11, "over", "()I"⟩
abbrev cX11_seek : ByteArray := prog_1_method_13_code
def yX11_seek : MethodName := ⟨RX11, "seek", "(I)I"⟩
abbrev cX11_fold : ByteArray := prog_1_method_14_code
def yX11_fold : MethodName := ⟨RX11, "fold", "(I)I"⟩
abbrev cX11_nail : ByteArray := prog_1_method_15_code
def yX11_nail : MethodName := ⟨RX11, "nail", "(I)I"⟩
abbrev cX11_place : ByteArray := prog_1_method_16_code
def yX11_place : MethodName := ⟨RX11, "place", "(II)I"⟩
abbrev cX11_seeker : ByteArray := prog_1_method_17_code
def yX11_seeker : MethodName := ⟨RX11, "seeker", "(II)I"⟩
abbrev cX11_likelihood : ByteArray := prog_1_method_18_code
def yX11_likelihood : MethodName := ⟨RX11, "likelihood", "(I)J"⟩
abbrev cX11_likely : ByteArray := prog_1_method_19_code
def yX11_likely : MethodName := ⟨RX11, "likely", "(II)J"⟩
abbrev cX11_felt : ByteArray := prog_1_method_20_code
def yX11_felt : MethodName := ⟨RX11, "felt", "(II)J"⟩
abbrev cX11_surest : ByteArray := prog_1_method_21_code
def yX11_surest : MethodName := ⟨RX11, "surest", "()I"⟩
abbrev cX11_mean : ByteArray := prog_1_method_22_code
def yX11_mean : MethodName := ⟨RX11, "mean", "(IIIII)J"⟩
abbrev cX11_begin : ByteArray := prog_1_method_23_code
def yX11_begin : MethodName := ⟨RX11, "begin", "(II)I"⟩
abbrev cX11_noEnd : ByteArray := prog_1_method_24_code
def yX11_noEnd : MethodName := ⟨RX11, "noEnd", "(III)I"⟩
abbrev cX11_width : ByteArray := prog_1_method_25_code
def yX11_width : MethodName := ⟨RX11, "width", "(IIII)I"⟩
abbrev cX11_lost : ByteArray := prog_1_method_26_code
def yX11_lost : MethodName := ⟨RX11, "lost", "(III)I"⟩
abbrev cX11_pays : ByteArray := prog_1_method_27_code
def yX11_pays : MethodName := ⟨RX11, "pays", "(II)I"⟩
abbrev cX11_whose : ByteArray := prog_1_method_28_code
def yX11_whose : MethodName := ⟨RX11, "whose", "(III)I"⟩
abbrev cX11_rule : ByteArray := prog_1_method_29_code
def yX11_rule : MethodName := ⟨RX11, "rule", "(IIIII)J"⟩
abbrev cX11_search : ByteArray := prog_1_method_30_code
def yX11_search : MethodName := ⟨RX11, "search", "(III)I"⟩
abbrev cX11_image : ByteArray := prog_1_method_31_code
def yX11_image : MethodName := ⟨RX11, "image", "(I)I"⟩
abbrev cX11_restore : ByteArray := prog_1_method_32_code
def yX11_restore : MethodName := ⟨RX11, "restore", "(I)I"⟩
abbrev cX11_kind : ByteArray := prog_1_method_33_code
def yX11_kind : MethodName := ⟨RX11, "kind", "(I)I"⟩
abbrev cX11_as : ByteArray := prog_1_method_34_code
def yX11_as : MethodName := ⟨RX11, "as", "(II)I"⟩
abbrev cX11_ask : ByteArray := prog_1_method_35_code
def yX11_ask : MethodName := ⟨RX11, "ask", "(II)I"⟩
abbrev cX11_trace : ByteArray := prog_1_method_36_code
def yX11_trace : MethodName := ⟨RX11, "trace", "(I)I"⟩
abbrev cX11_count : ByteArray := prog_1_method_37_code
def yX11_count : MethodName := ⟨RX11, "count", "(I)I"⟩
abbrev cX11_status : ByteArray := prog_1_method_38_code
def yX11_status : MethodName := ⟨RX11, "status", "()I"⟩
abbrev cX11_finding : ByteArray := prog_1_method_39_code
def yX11_finding : MethodName := ⟨RX11, "finding", "(I)I"⟩
abbrev cX11_unfound : ByteArray := prog_1_method_40_code
def yX11_unfound : MethodName := ⟨RX11, "unfound", "(I)I"⟩
abbrev cX11_noRoll : ByteArray := prog_1_method_41_code
def yX11_noRoll : MethodName := ⟨RX11, "noRoll", "()Z"⟩
abbrev cX11_isPlace : ByteArray := prog_1_method_42_code
def yX11_isPlace : MethodName := ⟨RX11, "isPlace", "(I)Z"⟩
abbrev cX11_isPlaceOrNone : ByteArray := prog_1_method_43_code
def yX11_isPlaceOrNone : MethodName := ⟨RX11, "isPlaceOrNone", "(I)Z"⟩
abbrev cX11_rowAt : ByteArray := prog_1_method_44_code
def yX11_rowAt : MethodName := ⟨RX11, "rowAt", "(I)LTapeEnd$Row;"⟩
abbrev cX11_seekerAt : ByteArray := prog_1_method_45_code
def yX11_seekerAt : MethodName := ⟨RX11, "seekerAt", "(I)LTapeEnd$Seeker;"⟩
abbrev cX11_rowsThere : ByteArray := prog_1_method_46_code
def yX11_rowsThere : MethodName := ⟨RX11, "rowsThere", "()I"⟩
abbrev cX11_keepAct : ByteArray := prog_1_method_47_code
def yX11_keepAct : MethodName := ⟨RX11, "keepAct", "()V"⟩
abbrev cX11_forgetActs : ByteArray := prog_1_method_48_code
def yX11_forgetActs : MethodName := ⟨RX11, "forgetActs", "()V"⟩
abbrev cX11_goesSo : ByteArray := prog_1_method_49_code
def yX11_goesSo : MethodName := ⟨RX11, "goesSo", "(LTapeEnd$Seeker;LTapeEnd$Row;II)Z"⟩
abbrev cX11_walkByWords : ByteArray := prog_1_method_50_code
def yX11_walkByWords : MethodName := ⟨RX11, "walkByWords", "(LTapeEnd$Seeker;LTapeEnd$Row;II)V"⟩
abbrev cX11_within : ByteArray := prog_1_method_51_code
def yX11_within : MethodName := ⟨RX11, "within", "(III)Z"⟩
abbrev cX11_isWay : ByteArray := prog_1_method_52_code
def yX11_isWay : MethodName := ⟨RX11, "isWay", "(I)Z"⟩
abbrev cX11_isSplinter : ByteArray := prog_1_method_53_code
def yX11_isSplinter : MethodName := ⟨RX11, "isSplinter", "(III)Z"⟩
abbrev cX11_widthBehind : ByteArray := prog_1_method_54_code
def yX11_widthBehind : MethodName := ⟨RX11, "widthBehind", "(IIII)I"⟩
abbrev cX11_nextDraw : ByteArray := prog_1_method_55_code
def yX11_nextDraw : MethodName := ⟨RX11, "nextDraw", "(J)J"⟩
abbrev cX11_tens : ByteArray := prog_1_method_56_code
def yX11_tens : MethodName := ⟨RX11, "tens", "(I)J"⟩
abbrev cX11_lowest : ByteArray := prog_1_method_57_code
def yX11_lowest : MethodName := ⟨RX11, "lowest", "(JJI)J"⟩
abbrev cX11_greatestDivisor : ByteArray := prog_1_method_58_code
def yX11_greatestDivisor : MethodName := ⟨RX11, "greatestDivisor", "(JJ)J"⟩
abbrev cX11_isOfKind : ByteArray := prog_1_method_59_code
def yX11_isOfKind : MethodName := ⟨RX11, "isOfKind", "(LTapeEnd$Seeker;I)Z"⟩
def RX12 : String := "TapeEndModel"
def TX12 : u_T := fun k => match k with
  | 0 => ("TapeEndModel", "thrown", "I", false)
  | 1 => ("TapeEndModel", "status", "I", false)
  | 2 => ("TapeEndModel", "lane", "[I", true)
  | 3 => ("TapeEndModel", "many", "[I", true)
  | 4 => ("TapeEndModel", "item", "[I", true)
  | 5 => ("TapeEndModel", "roll", "[I", true)
  | 6 => ("TapeEndModel", "fresh", "[I", true)
  | 7 => ("TapeEndModel", "like", "[J", true)
  | 8 => ("TapeEndModel", "was", "[I", true)
  | 9 => ("TapeEndModel", "liked", "[J", true)
  | 10 => ("TapeEndModel", "acts", "I", false)
  | 11 => ("TapeEndModel", "tape", "[I", true)
  | 12 => ("TapeEndModel", "taped", "I", false)
  | 13 => ("TapeEndModel", "cursor", "I", false)
  | 14 => ("TapeEndModel", "start", "I", false)
  | 15 => ("TapeEndModel", "token", "I", false)
  | 16 => ("TapeEndModel", "value", "I", false)
  | 17 => ("TapeEndModel", "fault", "I", false)
  | 18 => ("TapeEndModel", "faultAt", "I", false)
  | 19 => ("TapeEndModel", "latest", "I", false)
  | 20 => ("TapeEndModel", "some", "[J", true)
  | 21 => ("TapeEndModel", "isKept", "[Z", true)
  | 22 => ("TapeEndModel", "kept", "[I", true)
  | 23 => ("TapeEndModel", "keptLike", "[J", true)
  | 24 => ("TapeEndModel", "trace", "[I", true)
  | _ => ("TapeEndModel", "traced", "I", false)
def tyX12 : Nat → FieldType := fun k => match k with
  | 0 => .int
  | 1 => .int
  | 2 => .array .int
  | 3 => .array .int
  | 4 => .array .int
  | 5 => .array .int
  | 6 => .array .int
  | 7 => .array .long
  | 8 => .array .int
  | 9 => .array .long
  | 10 => .int
  | 11 => .array .int
  | 12 => .int
  | 13 => .int
  | 14 => .int
  | 15 => .int
  | 16 => .int
  | 17 => .int
  | 18 => .int
  | 19 => .int
  | 20 => .array .long
  | 21 => .array .boolean
  | 22 => .array .int
  | 23 => .array .long
  | 24 => .array .int
  | _ => .int
abbrev wsX120 : List Cond := u_ws RX12 TX12 26
theorem nmX12 : ∀ a, a < 26 → ∀ b, b < 26 → a ≠ b → (TX12 a).2.1 ≠ (TX12 b).2.1 := by decide +kernel
theorem tyX12_ok : ∀ k, k < 26 → parseFieldDescriptor (TX12 k).2.2.1 = some (tyX12 k) := by decide +kernel
abbrev cX12_init : ByteArray := prog_14_method_1_code
def yX12_init : MethodName := ⟨RX12, "<init>", "()V"⟩
abbrev cX12_in : ByteArray := prog_14_method_3_code
def yX12_in : MethodName := ⟨RX12, "in", "(JJJ)Z"⟩
abbrev cX12_finding : ByteArray := prog_14_method_4_code
def yX12_finding : MethodName := ⟨RX12, "finding", "(I)I"⟩
abbrev cX12_isRow : ByteArray := prog_14_method_5_code
def yX12_isRow : MethodName := ⟨RX12, "isRow", "(I)Z"⟩
abbrev cX12_row : ByteArray := prog_14_method_6_code
def yX12_row : MethodName := ⟨RX12, "row", "(III)I"⟩
abbrev cX12_set : ByteArray := prog_14_method_7_code
def yX12_set : MethodName := ⟨RX12, "set", "(III)I"⟩
abbrev cX12_copy : ByteArray := prog_14_method_8_code
def yX12_copy : MethodName := ⟨RX12, "copy", "(IIIII)I"⟩
abbrev cX12_drop : ByteArray := prog_14_method_9_code
def yX12_drop : MethodName := ⟨RX12, "drop", "(I)I"⟩
abbrev cX12_feed : ByteArray := prog_14_method_10_code
def yX12_feed : MethodName := ⟨RX12, "feed", "(I)I"⟩
abbrev cX12_bad : ByteArray := prog_14_method_11_code
def yX12_bad : MethodName := ⟨RX12, "bad", "(I)V"⟩
abbrev cX12_nextToken : ByteArray := prog_14_method_12_code
def yX12_nextToken : MethodName := ⟨RX12, "nextToken", "()V"⟩
abbrev cX12_must : ByteArray := prog_14_method_13_code
def yX12_must : MethodName := ⟨RX12, "must", "(Z)V"⟩
abbrev cX12_isLetter : ByteArray := prog_14_method_14_code
def yX12_isLetter : MethodName := ⟨RX12, "isLetter", "(I)Z"⟩
abbrev cX12_number : ByteArray := prog_14_method_15_code
def yX12_number : MethodName := ⟨RX12, "number", "(II)I"⟩
abbrev cX12_mustSign : ByteArray := prog_14_method_16_code
def yX12_mustSign : MethodName := ⟨RX12, "mustSign", "(I)V"⟩
abbrev cX12_beginText : ByteArray := prog_14_method_17_code
def yX12_beginText : MethodName := ⟨RX12, "beginText", "()V"⟩
abbrev cX12_failed : ByteArray := prog_14_method_18_code
def yX12_failed : MethodName := ⟨RX12, "failed", "()Z"⟩
abbrev cX12_fault : ByteArray := prog_14_method_19_code
def yX12_fault : MethodName := ⟨RX12, "fault", "()I"⟩
abbrev cX12_kindBy : ByteArray := prog_14_method_20_code
def yX12_kindBy : MethodName := ⟨RX12, "kindBy", "(I)I"⟩
abbrev cX12_readPlaces : ByteArray := prog_14_method_21_code
def yX12_readPlaces : MethodName := ⟨RX12, "readPlaces", "()V"⟩
abbrev cX12_readRidge : ByteArray := prog_14_method_22_code
def yX12_readRidge : MethodName := ⟨RX12, "readRidge", "()V"⟩
abbrev cX12_readSeeker : ByteArray := prog_14_method_23_code
def yX12_readSeeker : MethodName := ⟨RX12, "readSeeker", "()V"⟩
abbrev cX12_roll : ByteArray := prog_14_method_24_code
def yX12_roll : MethodName := ⟨RX12, "roll", "()I"⟩
abbrev cX12_isThere : ByteArray := prog_14_method_25_code
def yX12_isThere : MethodName := ⟨RX12, "isThere", "()Z"⟩
abbrev cX12_isPlace : ByteArray := prog_14_method_26_code
def yX12_isPlace : MethodName := ⟨RX12, "isPlace", "(I)Z"⟩
abbrev cX12_isSeeker : ByteArray := prog_14_method_27_code
def yX12_isSeeker : MethodName := ⟨RX12, "isSeeker", "(I)Z"⟩
abbrev cX12_of : ByteArray := prog_14_method_28_code
def yX12_of : MethodName := ⟨RX12, "of", "(II)I"⟩
abbrev cX12_feel : ByteArray := prog_14_method_29_code
def yX12_feel : MethodName := ⟨RX12, "feel", "(II)I"⟩
abbrev cX12_around : ByteArray := prog_14_method_30_code
def yX12_around : MethodName := ⟨RX12, "around", "(I)I"⟩
abbrev cX12_keep : ByteArray := prog_14_method_31_code
def yX12_keep : MethodName := ⟨RX12, "keep", "()V"⟩
abbrev cX12_speaks : ByteArray := prog_14_method_32_code
def yX12_speaks : MethodName := ⟨RX12, "speaks", "(IIII)I"⟩
abbrev cX12_touch : ByteArray := prog_14_method_33_code
def yX12_touch : MethodName := ⟨RX12, "touch", "(II)I"⟩
abbrev cX12_go : ByteArray := prog_14_method_34_code
def yX12_go : MethodName := ⟨RX12, "go", "(I)I"⟩
abbrev cX12_over : ByteArray := prog_14_method_35_code
def yX12_over : MethodName := ⟨RX12, "over", "()I"⟩
abbrev cX12_likeliestBut : ByteArray := prog_14_method_36_code
def yX12_likeliestBut : MethodName := ⟨RX12, "likeliestBut", "(I)I"⟩
abbrev cX12_nextOf : ByteArray := prog_14_method_37_code
def yX12_nextOf : MethodName := ⟨RX12, "nextOf", "(III)I"⟩
abbrev cX12_nextNow : ByteArray := prog_14_method_38_code
def yX12_nextNow : MethodName := ⟨RX12, "nextNow", "(I)I"⟩
abbrev cX12_seek : ByteArray := prog_14_method_39_code
def yX12_seek : MethodName := ⟨RX12, "seek", "(I)I"⟩
abbrev cX12_fold : ByteArray := prog_14_method_40_code
def yX12_fold : MethodName := ⟨RX12, "fold", "(I)I"⟩
abbrev cX12_undo : ByteArray := prog_14_method_41_code
def yX12_undo : MethodName := ⟨RX12, "undo", "()I"⟩
abbrev cX12_nail : ByteArray := prog_14_method_42_code
def yX12_nail : MethodName := ⟨RX12, "nail", "(I)I"⟩
abbrev cX12_place : ByteArray := prog_14_method_43_code
def yX12_place : MethodName := ⟨RX12, "place", "(II)I"⟩
abbrev cX12_seeker : ByteArray := prog_14_method_44_code
def yX12_seeker : MethodName := ⟨RX12, "seeker", "(II)I"⟩
abbrev cX12_likelihood : ByteArray := prog_14_method_45_code
def yX12_likelihood : MethodName := ⟨RX12, "likelihood", "(I)J"⟩
abbrev cX12_part : ByteArray := prog_14_method_46_code
def yX12_part : MethodName := ⟨RX12, "part", "(JJI)J"⟩
abbrev cX12_allLike : ByteArray := prog_14_method_47_code
def yX12_allLike : MethodName := ⟨RX12, "allLike", "()J"⟩
abbrev cX12_tens : ByteArray := prog_14_method_48_code
def yX12_tens : MethodName := ⟨RX12, "tens", "(I)J"⟩
abbrev cX12_likely : ByteArray := prog_14_method_49_code
def yX12_likely : MethodName := ⟨RX12, "likely", "(II)J"⟩
abbrev cX12_felt : ByteArray := prog_14_method_50_code
def yX12_felt : MethodName := ⟨RX12, "felt", "(II)J"⟩
abbrev cX12_surest : ByteArray := prog_14_method_51_code
def yX12_surest : MethodName := ⟨RX12, "surest", "()I"⟩
abbrev cX12_meanOf : ByteArray := prog_14_method_52_code
def yX12_meanOf : MethodName := ⟨RX12, "meanOf", "(IIII)J"⟩
abbrev cX12_isWay : ByteArray := prog_14_method_53_code
def yX12_isWay : MethodName := ⟨RX12, "isWay", "(I)Z"⟩
abbrev cX12_mean : ByteArray := prog_14_method_54_code
def yX12_mean : MethodName := ⟨RX12, "mean", "(IIIII)J"⟩
abbrev cX12_begin : ByteArray := prog_14_method_55_code
def yX12_begin : MethodName := ⟨RX12, "begin", "(II)I"⟩
abbrev cX12_noEnd : ByteArray := prog_14_method_56_code
def yX12_noEnd : MethodName := ⟨RX12, "noEnd", "(III)I"⟩
abbrev cX12_isSplinter : ByteArray := prog_14_method_57_code
def yX12_isSplinter : MethodName := ⟨RX12, "isSplinter", "(III)Z"⟩
abbrev cX12_wide : ByteArray := prog_14_method_58_code
def yX12_wide : MethodName := ⟨RX12, "wide", "(IIII)I"⟩
abbrev cX12_width : ByteArray := prog_14_method_59_code
def yX12_width : MethodName := ⟨RX12, "width", "(IIII)I"⟩
abbrev cX12_lost : ByteArray := prog_14_method_60_code
def yX12_lost : MethodName := ⟨RX12, "lost", "(III)I"⟩
abbrev cX12_pays : ByteArray := prog_14_method_61_code
def yX12_pays : MethodName := ⟨RX12, "pays", "(II)I"⟩
abbrev cX12_isHis : ByteArray := prog_14_method_62_code
def yX12_isHis : MethodName := ⟨RX12, "isHis", "(III)Z"⟩
abbrev cX12_whose : ByteArray := prog_14_method_63_code
def yX12_whose : MethodName := ⟨RX12, "whose", "(III)I"⟩
abbrev cX12_notBy : ByteArray := prog_14_method_64_code
def yX12_notBy : MethodName := ⟨RX12, "notBy", "(IIII)J"⟩
abbrev cX12_rule : ByteArray := prog_14_method_65_code
def yX12_rule : MethodName := ⟨RX12, "rule", "(IIIII)J"⟩
abbrev cX12_search : ByteArray := prog_14_method_66_code
def yX12_search : MethodName := ⟨RX12, "search", "(III)I"⟩
abbrev cX12_image : ByteArray := prog_14_method_67_code
def yX12_image : MethodName := ⟨RX12, "image", "(I)I"⟩
abbrev cX12_restore : ByteArray := prog_14_method_68_code
def yX12_restore : MethodName := ⟨RX12, "restore", "(I)I"⟩
abbrev cX12_isOf : ByteArray := prog_14_method_69_code
def yX12_isOf : MethodName := ⟨RX12, "isOf", "(II)Z"⟩
abbrev cX12_kind : ByteArray := prog_14_method_70_code
def yX12_kind : MethodName := ⟨RX12, "kind", "(I)I"⟩
abbrev cX12_as : ByteArray := prog_14_method_71_code
def yX12_as : MethodName := ⟨RX12, "as", "(II)I"⟩
abbrev cX12_began : ByteArray := prog_14_method_72_code
def yX12_began : MethodName := ⟨RX12, "began", "(I)V"⟩
abbrev cX12_plainSize : ByteArray := prog_14_method_73_code
def yX12_plainSize : MethodName := ⟨RX12, "plainSize", "(I)I"⟩
abbrev cX12_likeSize : ByteArray := prog_14_method_74_code
def yX12_likeSize : MethodName := ⟨RX12, "likeSize", "(I)I"⟩
abbrev cX12_markOf : ByteArray := prog_14_method_75_code
def yX12_markOf : MethodName := ⟨RX12, "markOf", "(I)I"⟩
abbrev cX12_sizeOf : ByteArray := prog_14_method_76_code
def yX12_sizeOf : MethodName := ⟨RX12, "sizeOf", "(I)I"⟩
abbrev cX12_ask : ByteArray := prog_14_method_77_code
def yX12_ask : MethodName := ⟨RX12, "ask", "(II)I"⟩
abbrev cX12_trace : ByteArray := prog_14_method_78_code
def yX12_trace : MethodName := ⟨RX12, "trace", "(I)I"⟩
abbrev cX12_count : ByteArray := prog_14_method_79_code
def yX12_count : MethodName := ⟨RX12, "count", "(I)I"⟩
abbrev cX12_status : ByteArray := prog_14_method_80_code
def yX12_status : MethodName := ⟨RX12, "status", "()I"⟩
def RJ9 : String := "java/lang/Math"
def TJ9 : u_T := fun k => match k with
  | _ => ("", "", "", false)
def tyJ9 : Nat → FieldType := fun k => match k with
  | _ => .int
abbrev wsJ90 : List Cond := u_ws RJ9 TJ9 0
theorem nmJ9 : ∀ a, a < 0 → ∀ b, b < 0 → a ≠ b → (TJ9 a).2.1 ≠ (TJ9 b).2.1 := by decide +kernel
theorem tyJ9_ok : ∀ k, k < 0 → parseFieldDescriptor (TJ9 k).2.2.1 = some (tyJ9 k) := by decide +kernel
abbrev cJ9_floorMod_7cf53 : ByteArray := prog_15_method_50_code
def yJ9_floorMod_7cf53 : MethodName := ⟨RJ9, "floorMod", "(II)I"⟩
abbrev cJ9_abs_0f7a4 : ByteArray := prog_15_method_59_code
def yJ9_abs_0f7a4 : MethodName := ⟨RJ9, "abs", "(I)I"⟩
abbrev cJ9_max_7cf53 : ByteArray := prog_15_method_65_code
def yJ9_max_7cf53 : MethodName := ⟨RJ9, "max", "(II)I"⟩
abbrev cJ9_min_7cf53 : ByteArray := prog_15_method_69_code
def yJ9_min_7cf53 : MethodName := ⟨RJ9, "min", "(II)I"⟩
def RJ10 : String := "java/lang/System"
def TJ10 : u_T := fun k => match k with
  | _ => ("", "", "", false)
def tyJ10 : Nat → FieldType := fun k => match k with
  | _ => .int
abbrev wsJ100 : List Cond := u_ws RJ10 TJ10 0
theorem nmJ10 : ∀ a, a < 0 → ∀ b, b < 0 → a ≠ b → (TJ10 a).2.1 ≠ (TJ10 b).2.1 := by decide +kernel
theorem tyJ10_ok : ∀ k, k < 0 → parseFieldDescriptor (TJ10 k).2.2.1 = some (tyJ10 k) := by decide +kernel
def RL : String := "TapeEndLaw"
abbrev cL_law : ByteArray := code
def yL_law : MethodName := ⟨RL, "law", "([I)Z"⟩
def yX7_kindTold : MethodName := ⟨RX7, "kindTold", "()I"⟩
def yX7_nextPlace : MethodName := ⟨RX7, "nextPlace", "(LTapeEnd$Roll;)I"⟩
abbrev vwCl : List vw_C := [(RX0, TX0, 3), (RX1, TX1, 3), (RX2, TX2, 9), (RX3, TX3, 3), (RX4, TX4, 8), (RX5, TX5, 3), (RX6, TX6, 4), (RX8, TX8, 3), (RX9, TX9, 4), (RX10, TX10, 2), (RX11, TX11, 11), (RX12, TX12, 26)]
theorem inX0 : ∀ w ∈ wsX00, w ∈ lw_tbl := by decide +kernel
theorem inX1 : ∀ w ∈ wsX10, w ∈ lw_tbl := by decide +kernel
theorem inX2 : ∀ w ∈ wsX20, w ∈ lw_tbl := by decide +kernel
theorem inX3 : ∀ w ∈ wsX30, w ∈ lw_tbl := by decide +kernel
theorem inX4 : ∀ w ∈ wsX40, w ∈ lw_tbl := by decide +kernel
theorem inX5 : ∀ w ∈ wsX50, w ∈ lw_tbl := by decide +kernel
theorem inX6 : ∀ w ∈ wsX60, w ∈ lw_tbl := by decide +kernel
theorem inX7 : ∀ w ∈ wsX70, w ∈ lw_tbl := by decide +kernel
theorem inX8 : ∀ w ∈ wsX80, w ∈ lw_tbl := by decide +kernel
theorem inX9 : ∀ w ∈ wsX90, w ∈ lw_tbl := by decide +kernel
theorem inX10 : ∀ w ∈ wsX100, w ∈ lw_tbl := by decide +kernel
theorem inX11 : ∀ w ∈ wsX110, w ∈ lw_tbl := by decide +kernel
theorem inX12 : ∀ w ∈ wsX120, w ∈ lw_tbl := by decide +kernel
theorem se_X11_X11_rowAt : Cond.selects RX11 yX11_rowAt yX11_rowAt ∈ lw_tbl := List.mem_of_getElem? (i := 0) (by decide +kernel)
theorem se_X11_X11_finding : Cond.selects RX11 yX11_finding yX11_finding ∈ lw_tbl := List.mem_of_getElem? (i := 1) (by decide +kernel)
theorem se_X11_X11_unfound : Cond.selects RX11 yX11_unfound yX11_unfound ∈ lw_tbl := List.mem_of_getElem? (i := 2) (by decide +kernel)
theorem se_X9_X9_readLaw : Cond.selects RX9 yX9_readLaw yX9_readLaw ∈ lw_tbl := List.mem_of_getElem? (i := 3) (by decide +kernel)
theorem se_X9_X9_takeSign : Cond.selects RX9 yX9_takeSign yX9_takeSign ∈ lw_tbl := List.mem_of_getElem? (i := 4) (by decide +kernel)
theorem se_X9_X9_letterHere : Cond.selects RX9 yX9_letterHere yX9_letterHere ∈ lw_tbl := List.mem_of_getElem? (i := 5) (by decide +kernel)
theorem se_X9_X9_fail : Cond.selects RX9 yX9_fail yX9_fail ∈ lw_tbl := List.mem_of_getElem? (i := 6) (by decide +kernel)
theorem se_X9_X9_takeNumber : Cond.selects RX9 yX9_takeNumber yX9_takeNumber ∈ lw_tbl := List.mem_of_getElem? (i := 7) (by decide +kernel)
theorem se_X9_X9_figuresHere : Cond.selects RX9 yX9_figuresHere yX9_figuresHere ∈ lw_tbl := List.mem_of_getElem? (i := 8) (by decide +kernel)
theorem se_X9_X9_readPlaces : Cond.selects RX9 yX9_readPlaces yX9_readPlaces ∈ lw_tbl := List.mem_of_getElem? (i := 9) (by decide +kernel)
theorem se_X9_X9_readRidge : Cond.selects RX9 yX9_readRidge yX9_readRidge ∈ lw_tbl := List.mem_of_getElem? (i := 10) (by decide +kernel)
theorem se_X9_X9_readSeeker : Cond.selects RX9 yX9_readSeeker yX9_readSeeker ∈ lw_tbl := List.mem_of_getElem? (i := 11) (by decide +kernel)
theorem se_X11_X11_forgetActs : Cond.selects RX11 yX11_forgetActs yX11_forgetActs ∈ lw_tbl := List.mem_of_getElem? (i := 12) (by decide +kernel)
theorem se_X11_X11_seekerAt : Cond.selects RX11 yX11_seekerAt yX11_seekerAt ∈ lw_tbl := List.mem_of_getElem? (i := 13) (by decide +kernel)
theorem se_X11_X11_keepAct : Cond.selects RX11 yX11_keepAct yX11_keepAct ∈ lw_tbl := List.mem_of_getElem? (i := 14) (by decide +kernel)
theorem se_X11_X11_noRoll : Cond.selects RX11 yX11_noRoll yX11_noRoll ∈ lw_tbl := List.mem_of_getElem? (i := 15) (by decide +kernel)
theorem se_X11_X11_isPlace : Cond.selects RX11 yX11_isPlace yX11_isPlace ∈ lw_tbl := List.mem_of_getElem? (i := 16) (by decide +kernel)
theorem se_X11_X11_isPlaceOrNone : Cond.selects RX11 yX11_isPlaceOrNone yX11_isPlaceOrNone ∈ lw_tbl := List.mem_of_getElem? (i := 17) (by decide +kernel)
theorem se_X4_X4_secondsTill : Cond.selects RX4 yX4_secondsTill yX4_secondsTill ∈ lw_tbl := List.mem_of_getElem? (i := 18) (by decide +kernel)
theorem se_X4_X4_secondsIfAt : Cond.selects RX4 yX4_secondsIfAt yX4_secondsIfAt ∈ lw_tbl := List.mem_of_getElem? (i := 19) (by decide +kernel)
theorem se_X11_X11_goesSo : Cond.selects RX11 yX11_goesSo yX11_goesSo ∈ lw_tbl := List.mem_of_getElem? (i := 20) (by decide +kernel)
theorem se_X11_X11_walkByWords : Cond.selects RX11 yX11_walkByWords yX11_walkByWords ∈ lw_tbl := List.mem_of_getElem? (i := 21) (by decide +kernel)
theorem se_X11_X11_rowsThere : Cond.selects RX11 yX11_rowsThere yX11_rowsThere ∈ lw_tbl := List.mem_of_getElem? (i := 22) (by decide +kernel)
theorem se_X12_X12_finding : Cond.selects RX12 yX12_finding yX12_finding ∈ lw_tbl := List.mem_of_getElem? (i := 23) (by decide +kernel)
theorem se_X12_X12_beginText : Cond.selects RX12 yX12_beginText yX12_beginText ∈ lw_tbl := List.mem_of_getElem? (i := 24) (by decide +kernel)
theorem se_X12_X12_nextToken : Cond.selects RX12 yX12_nextToken yX12_nextToken ∈ lw_tbl := List.mem_of_getElem? (i := 25) (by decide +kernel)
theorem se_X12_X12_isLetter : Cond.selects RX12 yX12_isLetter yX12_isLetter ∈ lw_tbl := List.mem_of_getElem? (i := 26) (by decide +kernel)
theorem se_X12_X12_must : Cond.selects RX12 yX12_must yX12_must ∈ lw_tbl := List.mem_of_getElem? (i := 27) (by decide +kernel)
theorem se_X12_X12_bad : Cond.selects RX12 yX12_bad yX12_bad ∈ lw_tbl := List.mem_of_getElem? (i := 28) (by decide +kernel)
theorem se_X12_X12_number : Cond.selects RX12 yX12_number yX12_number ∈ lw_tbl := List.mem_of_getElem? (i := 29) (by decide +kernel)
theorem se_X12_X12_mustSign : Cond.selects RX12 yX12_mustSign yX12_mustSign ∈ lw_tbl := List.mem_of_getElem? (i := 30) (by decide +kernel)
theorem se_X12_X12_readPlaces : Cond.selects RX12 yX12_readPlaces yX12_readPlaces ∈ lw_tbl := List.mem_of_getElem? (i := 31) (by decide +kernel)
theorem se_X12_X12_readRidge : Cond.selects RX12 yX12_readRidge yX12_readRidge ∈ lw_tbl := List.mem_of_getElem? (i := 32) (by decide +kernel)
theorem se_X12_X12_readSeeker : Cond.selects RX12 yX12_readSeeker yX12_readSeeker ∈ lw_tbl := List.mem_of_getElem? (i := 33) (by decide +kernel)
theorem se_X12_X12_failed : Cond.selects RX12 yX12_failed yX12_failed ∈ lw_tbl := List.mem_of_getElem? (i := 34) (by decide +kernel)
theorem se_X12_X12_isSeeker : Cond.selects RX12 yX12_isSeeker yX12_isSeeker ∈ lw_tbl := List.mem_of_getElem? (i := 35) (by decide +kernel)
theorem se_X12_X12_speaks : Cond.selects RX12 yX12_speaks yX12_speaks ∈ lw_tbl := List.mem_of_getElem? (i := 36) (by decide +kernel)
theorem se_X12_X12_feel : Cond.selects RX12 yX12_feel yX12_feel ∈ lw_tbl := List.mem_of_getElem? (i := 37) (by decide +kernel)
theorem se_X12_X12_of : Cond.selects RX12 yX12_of yX12_of ∈ lw_tbl := List.mem_of_getElem? (i := 38) (by decide +kernel)
theorem se_X12_X12_keep : Cond.selects RX12 yX12_keep yX12_keep ∈ lw_tbl := List.mem_of_getElem? (i := 39) (by decide +kernel)
theorem se_X12_X12_isThere : Cond.selects RX12 yX12_isThere yX12_isThere ∈ lw_tbl := List.mem_of_getElem? (i := 40) (by decide +kernel)
theorem se_X12_X12_around : Cond.selects RX12 yX12_around yX12_around ∈ lw_tbl := List.mem_of_getElem? (i := 41) (by decide +kernel)
theorem se_X12_X12_nextNow : Cond.selects RX12 yX12_nextNow yX12_nextNow ∈ lw_tbl := List.mem_of_getElem? (i := 42) (by decide +kernel)
theorem se_X12_X12_nextOf : Cond.selects RX12 yX12_nextOf yX12_nextOf ∈ lw_tbl := List.mem_of_getElem? (i := 43) (by decide +kernel)
theorem se_X12_X12_likeliestBut : Cond.selects RX12 yX12_likeliestBut yX12_likeliestBut ∈ lw_tbl := List.mem_of_getElem? (i := 44) (by decide +kernel)
theorem se_X12_X12_isPlace : Cond.selects RX12 yX12_isPlace yX12_isPlace ∈ lw_tbl := List.mem_of_getElem? (i := 45) (by decide +kernel)
theorem se_X12_X12_allLike : Cond.selects RX12 yX12_allLike yX12_allLike ∈ lw_tbl := List.mem_of_getElem? (i := 46) (by decide +kernel)
theorem se_X12_X12_meanOf : Cond.selects RX12 yX12_meanOf yX12_meanOf ∈ lw_tbl := List.mem_of_getElem? (i := 47) (by decide +kernel)
theorem se_X12_X12_isHis : Cond.selects RX12 yX12_isHis yX12_isHis ∈ lw_tbl := List.mem_of_getElem? (i := 48) (by decide +kernel)
theorem se_X12_X12_notBy : Cond.selects RX12 yX12_notBy yX12_notBy ∈ lw_tbl := List.mem_of_getElem? (i := 49) (by decide +kernel)
theorem se_X12_X12_sizeOf : Cond.selects RX12 yX12_sizeOf yX12_sizeOf ∈ lw_tbl := List.mem_of_getElem? (i := 50) (by decide +kernel)
theorem se_X12_X12_likeSize : Cond.selects RX12 yX12_likeSize yX12_likeSize ∈ lw_tbl := List.mem_of_getElem? (i := 51) (by decide +kernel)
theorem se_X12_X12_began : Cond.selects RX12 yX12_began yX12_began ∈ lw_tbl := List.mem_of_getElem? (i := 52) (by decide +kernel)
theorem se_X12_X12_plainSize : Cond.selects RX12 yX12_plainSize yX12_plainSize ∈ lw_tbl := List.mem_of_getElem? (i := 53) (by decide +kernel)
theorem se_X12_X12_markOf : Cond.selects RX12 yX12_markOf yX12_markOf ∈ lw_tbl := List.mem_of_getElem? (i := 54) (by decide +kernel)
theorem ni_L : Cond.initialized RL ∈ lw_tbl := List.mem_of_getElem? (i := 55) (by decide +kernel)
theorem ni_X11 : Cond.initialized RX11 ∈ lw_tbl := List.mem_of_getElem? (i := 56) (by decide +kernel)
theorem ni_X9 : Cond.initialized RX9 ∈ lw_tbl := List.mem_of_getElem? (i := 57) (by decide +kernel)
theorem ni_X10 : Cond.initialized RX10 ∈ lw_tbl := List.mem_of_getElem? (i := 58) (by decide +kernel)
theorem ni_X2 : Cond.initialized RX2 ∈ lw_tbl := List.mem_of_getElem? (i := 59) (by decide +kernel)
theorem ni_X4 : Cond.initialized RX4 ∈ lw_tbl := List.mem_of_getElem? (i := 60) (by decide +kernel)
theorem ni_X6 : Cond.initialized RX6 ∈ lw_tbl := List.mem_of_getElem? (i := 61) (by decide +kernel)
theorem ni_X12 : Cond.initialized RX12 ∈ lw_tbl := List.mem_of_getElem? (i := 62) (by decide +kernel)
theorem ni_J10 : Cond.initialized RJ10 ∈ lw_tbl := List.mem_of_getElem? (i := 63) (by decide +kernel)
theorem ni_X7 : Cond.initialized RX7 ∈ lw_tbl := List.mem_of_getElem? (i := 64) (by decide +kernel)
theorem ni_X5 : Cond.initialized RX5 ∈ lw_tbl := List.mem_of_getElem? (i := 65) (by decide +kernel)
theorem ni_X0 : Cond.initialized RX0 ∈ lw_tbl := List.mem_of_getElem? (i := 66) (by decide +kernel)
theorem ni_X1 : Cond.initialized RX1 ∈ lw_tbl := List.mem_of_getElem? (i := 67) (by decide +kernel)
theorem ni_X3 : Cond.initialized RX3 ∈ lw_tbl := List.mem_of_getElem? (i := 68) (by decide +kernel)
theorem ni_X8 : Cond.initialized RX8 ∈ lw_tbl := List.mem_of_getElem? (i := 69) (by decide +kernel)
theorem ni_J9 : Cond.initialized RJ9 ∈ lw_tbl := List.mem_of_getElem? (i := 70) (by decide +kernel)
theorem cl_L_7 : Cond.classLink RL 7 RX11 ∈ lw_tbl := List.mem_of_getElem? (i := 71) (by decide +kernel)
theorem ib_X11 : Cond.instantiable RX11 11 ∈ lw_tbl := List.mem_of_getElem? (i := 72) (by decide +kernel)
theorem ml_L_9 : Cond.methodLink RL 9 yX11_init ∈ lw_tbl := List.mem_of_getElem? (i := 73) (by decide +kernel)
theorem im_X11_init : Cond.instanceMethod yX11_init ∈ lw_tbl := List.mem_of_getElem? (i := 74) (by decide +kernel)
theorem cd_X11_init : Cond.code yX11_init cX11_init 3 none ∈ lw_tbl := List.mem_of_getElem? (i := 75) (by decide +kernel)
theorem ml_X11_1 : Cond.methodLink RX11 1 ⟨"java/lang/Object", "<init>", "()V"⟩ ∈ lw_tbl := List.mem_of_getElem? (i := 76) (by decide +kernel)
theorem im_o77 : Cond.instanceMethod ⟨"java/lang/Object", "<init>", "()V"⟩ ∈ lw_tbl := List.mem_of_getElem? (i := 77) (by decide +kernel)
theorem cd_o78 : Cond.code ⟨"java/lang/Object", "<init>", "()V"⟩ object_method_1_code 1 none ∈ lw_tbl := List.mem_of_getElem? (i := 78) (by decide +kernel)
theorem cl_X11_9 : Cond.classLink RX11 9 RX6 ∈ lw_tbl := List.mem_of_getElem? (i := 79) (by decide +kernel)
theorem ao_X6 : Cond.arrayOver (FieldType.object "TapeEnd$Row") ∈ lw_tbl := List.mem_of_getElem? (i := 80) (by decide +kernel)
theorem cl_X11_15 : Cond.classLink RX11 15 RX9 ∈ lw_tbl := List.mem_of_getElem? (i := 81) (by decide +kernel)
theorem ib_X9 : Cond.instantiable RX9 4 ∈ lw_tbl := List.mem_of_getElem? (i := 82) (by decide +kernel)
theorem mn_X11_17 : Cond.methodLinkNest RX11 17 yX9_init "TapeEnd" ∈ lw_tbl := List.mem_of_getElem? (i := 83) (by decide +kernel)
theorem im_X9_init : Cond.instanceMethod yX9_init ∈ lw_tbl := List.mem_of_getElem? (i := 84) (by decide +kernel)
theorem cd_X9_init : Cond.code yX9_init cX9_init 1 none ∈ lw_tbl := List.mem_of_getElem? (i := 85) (by decide +kernel)
theorem ml_X9_3 : Cond.methodLink RX9 3 ⟨"java/lang/Object", "<init>", "()V"⟩ ∈ lw_tbl := List.mem_of_getElem? (i := 86) (by decide +kernel)
theorem fl_X9_9 : Cond.fieldLink RX9 9 "TapeEnd$Tape" "bytes" "[I" ∈ lw_tbl := List.mem_of_getElem? (i := 87) (by decide +kernel)
theorem fl_X9_15 : Cond.fieldLink RX9 15 "TapeEnd$Tape" "size" "I" ∈ lw_tbl := List.mem_of_getElem? (i := 88) (by decide +kernel)
theorem fl_X11_101 : Cond.fieldLink RX11 101 "TapeEnd$Tape" "size" "I" ∈ lw_tbl := List.mem_of_getElem? (i := 89) (by decide +kernel)
theorem fl_X9_19 : Cond.fieldLink RX9 19 "TapeEnd$Tape" "at" "I" ∈ lw_tbl := List.mem_of_getElem? (i := 90) (by decide +kernel)
theorem fl_X11_118 : Cond.fieldLink RX11 118 "TapeEnd$Tape" "at" "I" ∈ lw_tbl := List.mem_of_getElem? (i := 91) (by decide +kernel)
theorem fl_X9_22 : Cond.fieldLink RX9 22 "TapeEnd$Tape" "wrong" "I" ∈ lw_tbl := List.mem_of_getElem? (i := 92) (by decide +kernel)
theorem fl_X11_111 : Cond.fieldLink RX11 111 "TapeEnd$Tape" "wrong" "I" ∈ lw_tbl := List.mem_of_getElem? (i := 93) (by decide +kernel)
theorem su_X9_Obj : Cond.superclass RX9 "java/lang/Object" ∈ lw_tbl := List.mem_of_getElem? (i := 102) (by decide +kernel)
theorem ac_int : Cond.arrayClass FieldType.int ∈ lw_tbl := List.mem_of_getElem? (i := 103) (by decide +kernel)
theorem cl_X11_22 : Cond.classLink RX11 22 RX10 ∈ lw_tbl := List.mem_of_getElem? (i := 104) (by decide +kernel)
theorem ib_X10 : Cond.instantiable RX10 2 ∈ lw_tbl := List.mem_of_getElem? (i := 105) (by decide +kernel)
theorem mn_X11_24 : Cond.methodLinkNest RX11 24 yX10_init "TapeEnd" ∈ lw_tbl := List.mem_of_getElem? (i := 106) (by decide +kernel)
theorem im_X10_init : Cond.instanceMethod yX10_init ∈ lw_tbl := List.mem_of_getElem? (i := 107) (by decide +kernel)
theorem cd_X10_init : Cond.code yX10_init cX10_init 1 none ∈ lw_tbl := List.mem_of_getElem? (i := 108) (by decide +kernel)
theorem ml_X10_3 : Cond.methodLink RX10 3 ⟨"java/lang/Object", "<init>", "()V"⟩ ∈ lw_tbl := List.mem_of_getElem? (i := 109) (by decide +kernel)
theorem fl_X10_9 : Cond.fieldLink RX10 9 "TapeEnd$Trace" "numbers" "[I" ∈ lw_tbl := List.mem_of_getElem? (i := 110) (by decide +kernel)
theorem fl_X11_303 : Cond.fieldLink RX11 303 "TapeEnd$Trace" "numbers" "[I" ∈ lw_tbl := List.mem_of_getElem? (i := 111) (by decide +kernel)
theorem fl_X10_15 : Cond.fieldLink RX10 15 "TapeEnd$Trace" "size" "I" ∈ lw_tbl := List.mem_of_getElem? (i := 112) (by decide +kernel)
theorem fl_X11_295 : Cond.fieldLink RX11 295 "TapeEnd$Trace" "size" "I" ∈ lw_tbl := List.mem_of_getElem? (i := 113) (by decide +kernel)
theorem su_X10_Obj : Cond.superclass RX10 "java/lang/Object" ∈ lw_tbl := List.mem_of_getElem? (i := 118) (by decide +kernel)
theorem cl_X11_29 : Cond.classLink RX11 29 RX4 ∈ lw_tbl := List.mem_of_getElem? (i := 119) (by decide +kernel)
theorem ao_X4 : Cond.arrayOver (FieldType.object "TapeEnd$Roll") ∈ lw_tbl := List.mem_of_getElem? (i := 120) (by decide +kernel)
theorem cl_X11_38 : Cond.classLink RX11 38 RX2 ∈ lw_tbl := List.mem_of_getElem? (i := 121) (by decide +kernel)
theorem ib_X2 : Cond.instantiable RX2 9 ∈ lw_tbl := List.mem_of_getElem? (i := 122) (by decide +kernel)
theorem mn_X11_40 : Cond.methodLinkNest RX11 40 yX2_init "TapeEnd" ∈ lw_tbl := List.mem_of_getElem? (i := 123) (by decide +kernel)
theorem im_X2_init : Cond.instanceMethod yX2_init ∈ lw_tbl := List.mem_of_getElem? (i := 124) (by decide +kernel)
theorem cd_X2_init : Cond.code yX2_init cX2_init 1 none ∈ lw_tbl := List.mem_of_getElem? (i := 125) (by decide +kernel)
theorem ml_X2_3 : Cond.methodLink RX2 3 ⟨"java/lang/Object", "<init>", "()V"⟩ ∈ lw_tbl := List.mem_of_getElem? (i := 126) (by decide +kernel)
theorem cl_X2_18 : Cond.classLink RX2 18 RX7 ∈ lw_tbl := List.mem_of_getElem? (i := 127) (by decide +kernel)
theorem ao_X7 : Cond.arrayOver (FieldType.object "TapeEnd$Seeker") ∈ lw_tbl := List.mem_of_getElem? (i := 128) (by decide +kernel)
theorem fl_X2_9 : Cond.fieldLink RX2 9 "TapeEnd$Law" "weights" "[I" ∈ lw_tbl := List.mem_of_getElem? (i := 129) (by decide +kernel)
theorem fl_X4_44 : Cond.fieldLink RX4 44 "TapeEnd$Law" "weights" "[I" ∈ lw_tbl := List.mem_of_getElem? (i := 130) (by decide +kernel)
theorem fl_X9_72 : Cond.fieldLink RX9 72 "TapeEnd$Law" "weights" "[I" ∈ lw_tbl := List.mem_of_getElem? (i := 131) (by decide +kernel)
theorem fl_X11_201 : Cond.fieldLink RX11 201 "TapeEnd$Law" "weights" "[I" ∈ lw_tbl := List.mem_of_getElem? (i := 132) (by decide +kernel)
theorem fl_X2_15 : Cond.fieldLink RX2 15 "TapeEnd$Law" "chances" "[I" ∈ lw_tbl := List.mem_of_getElem? (i := 133) (by decide +kernel)
theorem fl_X4_63 : Cond.fieldLink RX4 63 "TapeEnd$Law" "chances" "[I" ∈ lw_tbl := List.mem_of_getElem? (i := 134) (by decide +kernel)
theorem fl_X9_78 : Cond.fieldLink RX9 78 "TapeEnd$Law" "chances" "[I" ∈ lw_tbl := List.mem_of_getElem? (i := 135) (by decide +kernel)
theorem fl_X11_204 : Cond.fieldLink RX11 204 "TapeEnd$Law" "chances" "[I" ∈ lw_tbl := List.mem_of_getElem? (i := 136) (by decide +kernel)
theorem fl_X2_20 : Cond.fieldLink RX2 20 "TapeEnd$Law" "seekers" "[LTapeEnd$Seeker;" ∈ lw_tbl := List.mem_of_getElem? (i := 137) (by decide +kernel)
theorem fl_X9_84 : Cond.fieldLink RX9 84 "TapeEnd$Law" "seekers" "[LTapeEnd$Seeker;" ∈ lw_tbl := List.mem_of_getElem? (i := 138) (by decide +kernel)
theorem fl_X11_313 : Cond.fieldLink RX11 313 "TapeEnd$Law" "seekers" "[LTapeEnd$Seeker;" ∈ lw_tbl := List.mem_of_getElem? (i := 139) (by decide +kernel)
theorem fl_X2_24 : Cond.fieldLink RX2 24 "TapeEnd$Law" "places" "I" ∈ lw_tbl := List.mem_of_getElem? (i := 140) (by decide +kernel)
theorem fl_X4_39 : Cond.fieldLink RX4 39 "TapeEnd$Law" "places" "I" ∈ lw_tbl := List.mem_of_getElem? (i := 141) (by decide +kernel)
theorem fl_X9_60 : Cond.fieldLink RX9 60 "TapeEnd$Law" "places" "I" ∈ lw_tbl := List.mem_of_getElem? (i := 142) (by decide +kernel)
theorem fl_X11_127 : Cond.fieldLink RX11 127 "TapeEnd$Law" "places" "I" ∈ lw_tbl := List.mem_of_getElem? (i := 143) (by decide +kernel)
theorem fl_X9_63 : Cond.fieldLink RX9 63 "TapeEnd$Law" "step" "I" ∈ lw_tbl := List.mem_of_getElem? (i := 144) (by decide +kernel)
theorem fl_X4_73 : Cond.fieldLink RX4 73 "TapeEnd$Law" "step" "I" ∈ lw_tbl := List.mem_of_getElem? (i := 145) (by decide +kernel)
theorem fl_X9_66 : Cond.fieldLink RX9 66 "TapeEnd$Law" "over" "I" ∈ lw_tbl := List.mem_of_getElem? (i := 146) (by decide +kernel)
theorem fl_X4_76 : Cond.fieldLink RX4 76 "TapeEnd$Law" "over" "I" ∈ lw_tbl := List.mem_of_getElem? (i := 147) (by decide +kernel)
theorem fl_X4_48 : Cond.fieldLink RX4 48 "TapeEnd$Law" "missing" "I" ∈ lw_tbl := List.mem_of_getElem? (i := 148) (by decide +kernel)
theorem fl_X2_34 : Cond.fieldLink RX2 34 "TapeEnd$Law" "missing" "I" ∈ lw_tbl := List.mem_of_getElem? (i := 149) (by decide +kernel)
theorem fl_X9_69 : Cond.fieldLink RX9 69 "TapeEnd$Law" "missing" "I" ∈ lw_tbl := List.mem_of_getElem? (i := 150) (by decide +kernel)
theorem fl_X9_75 : Cond.fieldLink RX9 75 "TapeEnd$Law" "ridges" "I" ∈ lw_tbl := List.mem_of_getElem? (i := 151) (by decide +kernel)
theorem fl_X11_309 : Cond.fieldLink RX11 309 "TapeEnd$Law" "ridges" "I" ∈ lw_tbl := List.mem_of_getElem? (i := 152) (by decide +kernel)
theorem fl_X9_81 : Cond.fieldLink RX9 81 "TapeEnd$Law" "seekersTold" "I" ∈ lw_tbl := List.mem_of_getElem? (i := 153) (by decide +kernel)
theorem fl_X11_258 : Cond.fieldLink RX11 258 "TapeEnd$Law" "seekersTold" "I" ∈ lw_tbl := List.mem_of_getElem? (i := 154) (by decide +kernel)
theorem su_X2_Obj : Cond.superclass RX2 "java/lang/Object" ∈ lw_tbl := List.mem_of_getElem? (i := 173) (by decide +kernel)
theorem ib_X4 : Cond.instantiable RX4 8 ∈ lw_tbl := List.mem_of_getElem? (i := 174) (by decide +kernel)
theorem ml_X11_41 : Cond.methodLink RX11 41 yX4_init ∈ lw_tbl := List.mem_of_getElem? (i := 175) (by decide +kernel)
theorem im_X4_init : Cond.instanceMethod yX4_init ∈ lw_tbl := List.mem_of_getElem? (i := 176) (by decide +kernel)
theorem cd_X4_init : Cond.code yX4_init cX4_init 2 none ∈ lw_tbl := List.mem_of_getElem? (i := 177) (by decide +kernel)
theorem ml_X4_3 : Cond.methodLink RX4 3 ⟨"java/lang/Object", "<init>", "()V"⟩ ∈ lw_tbl := List.mem_of_getElem? (i := 178) (by decide +kernel)
theorem kI_X4_19 : Cond.constant RX4 19 (-1000000) ∈ lw_tbl := List.mem_of_getElem? (i := 179) (by decide +kernel)
theorem fl_X4_9 : Cond.fieldLink RX4 9 "TapeEnd$Roll" "likelihoods" "[J" ∈ lw_tbl := List.mem_of_getElem? (i := 180) (by decide +kernel)
theorem fl_X11_221 : Cond.fieldLink RX11 221 "TapeEnd$Roll" "likelihoods" "[J" ∈ lw_tbl := List.mem_of_getElem? (i := 181) (by decide +kernel)
theorem fl_X4_23 : Cond.fieldLink RX4 23 "TapeEnd$Roll" "law" "LTapeEnd$Law;" ∈ lw_tbl := List.mem_of_getElem? (i := 182) (by decide +kernel)
theorem fl_X5_7 : Cond.fieldLink RX5 7 "TapeEnd$Roll" "law" "LTapeEnd$Law;" ∈ lw_tbl := List.mem_of_getElem? (i := 183) (by decide +kernel)
theorem fl_X0_13 : Cond.fieldLink RX0 13 "TapeEnd$Roll" "law" "LTapeEnd$Law;" ∈ lw_tbl := List.mem_of_getElem? (i := 184) (by decide +kernel)
theorem fl_X11_197 : Cond.fieldLink RX11 197 "TapeEnd$Roll" "law" "LTapeEnd$Law;" ∈ lw_tbl := List.mem_of_getElem? (i := 185) (by decide +kernel)
theorem fl_X4_27 : Cond.fieldLink RX4 27 "TapeEnd$Roll" "place" "I" ∈ lw_tbl := List.mem_of_getElem? (i := 186) (by decide +kernel)
theorem fl_X3_7 : Cond.fieldLink RX3 7 "TapeEnd$Roll" "place" "I" ∈ lw_tbl := List.mem_of_getElem? (i := 187) (by decide +kernel)
theorem fl_X5_13 : Cond.fieldLink RX5 13 "TapeEnd$Roll" "place" "I" ∈ lw_tbl := List.mem_of_getElem? (i := 188) (by decide +kernel)
theorem fl_X0_17 : Cond.fieldLink RX0 17 "TapeEnd$Roll" "place" "I" ∈ lw_tbl := List.mem_of_getElem? (i := 189) (by decide +kernel)
theorem fl_X8_16 : Cond.fieldLink RX8 16 "TapeEnd$Roll" "place" "I" ∈ lw_tbl := List.mem_of_getElem? (i := 190) (by decide +kernel)
theorem fl_X11_166 : Cond.fieldLink RX11 166 "TapeEnd$Roll" "place" "I" ∈ lw_tbl := List.mem_of_getElem? (i := 191) (by decide +kernel)
theorem fl_X4_15 : Cond.fieldLink RX4 15 "TapeEnd$Roll" "way" "I" ∈ lw_tbl := List.mem_of_getElem? (i := 192) (by decide +kernel)
theorem fl_X5_17 : Cond.fieldLink RX5 17 "TapeEnd$Roll" "way" "I" ∈ lw_tbl := List.mem_of_getElem? (i := 193) (by decide +kernel)
theorem fl_X0_20 : Cond.fieldLink RX0 20 "TapeEnd$Roll" "way" "I" ∈ lw_tbl := List.mem_of_getElem? (i := 194) (by decide +kernel)
theorem fl_X11_172 : Cond.fieldLink RX11 172 "TapeEnd$Roll" "way" "I" ∈ lw_tbl := List.mem_of_getElem? (i := 195) (by decide +kernel)
theorem fl_X4_30 : Cond.fieldLink RX4 30 "TapeEnd$Roll" "seconds" "I" ∈ lw_tbl := List.mem_of_getElem? (i := 196) (by decide +kernel)
theorem fl_X11_191 : Cond.fieldLink RX11 191 "TapeEnd$Roll" "seconds" "I" ∈ lw_tbl := List.mem_of_getElem? (i := 197) (by decide +kernel)
theorem fl_X4_33 : Cond.fieldLink RX4 33 "TapeEnd$Roll" "touches" "I" ∈ lw_tbl := List.mem_of_getElem? (i := 198) (by decide +kernel)
theorem fl_X11_153 : Cond.fieldLink RX11 153 "TapeEnd$Roll" "touches" "I" ∈ lw_tbl := List.mem_of_getElem? (i := 199) (by decide +kernel)
theorem fl_X4_36 : Cond.fieldLink RX4 36 "TapeEnd$Roll" "lastFelt" "I" ∈ lw_tbl := List.mem_of_getElem? (i := 200) (by decide +kernel)
theorem fl_X0_7 : Cond.fieldLink RX0 7 "TapeEnd$Roll" "lastFelt" "I" ∈ lw_tbl := List.mem_of_getElem? (i := 201) (by decide +kernel)
theorem fl_X11_194 : Cond.fieldLink RX11 194 "TapeEnd$Roll" "lastFelt" "I" ∈ lw_tbl := List.mem_of_getElem? (i := 202) (by decide +kernel)
theorem fl_X4_20 : Cond.fieldLink RX4 20 "TapeEnd$Roll" "tab" "I" ∈ lw_tbl := List.mem_of_getElem? (i := 203) (by decide +kernel)
theorem fl_X8_9 : Cond.fieldLink RX8 9 "TapeEnd$Roll" "tab" "I" ∈ lw_tbl := List.mem_of_getElem? (i := 204) (by decide +kernel)
theorem fl_X11_188 : Cond.fieldLink RX11 188 "TapeEnd$Roll" "tab" "I" ∈ lw_tbl := List.mem_of_getElem? (i := 205) (by decide +kernel)
theorem su_X4_Obj : Cond.superclass RX4 "java/lang/Object" ∈ lw_tbl := List.mem_of_getElem? (i := 222) (by decide +kernel)
theorem ac_long : Cond.arrayClass FieldType.long ∈ lw_tbl := List.mem_of_getElem? (i := 223) (by decide +kernel)
theorem ib_X6 : Cond.instantiable RX6 4 ∈ lw_tbl := List.mem_of_getElem? (i := 224) (by decide +kernel)
theorem mn_X11_51 : Cond.methodLinkNest RX11 51 yX6_init "TapeEnd" ∈ lw_tbl := List.mem_of_getElem? (i := 225) (by decide +kernel)
theorem im_X6_init : Cond.instanceMethod yX6_init ∈ lw_tbl := List.mem_of_getElem? (i := 226) (by decide +kernel)
theorem cd_X6_init : Cond.code yX6_init cX6_init 1 none ∈ lw_tbl := List.mem_of_getElem? (i := 227) (by decide +kernel)
theorem ml_X6_3 : Cond.methodLink RX6 3 ⟨"java/lang/Object", "<init>", "()V"⟩ ∈ lw_tbl := List.mem_of_getElem? (i := 228) (by decide +kernel)
theorem fl_X6_9 : Cond.fieldLink RX6 9 "TapeEnd$Row" "items" "[I" ∈ lw_tbl := List.mem_of_getElem? (i := 229) (by decide +kernel)
theorem fl_X11_88 : Cond.fieldLink RX11 88 "TapeEnd$Row" "items" "[I" ∈ lw_tbl := List.mem_of_getElem? (i := 230) (by decide +kernel)
theorem fl_X6_15 : Cond.fieldLink RX6 15 "TapeEnd$Row" "missing" "Z" ∈ lw_tbl := List.mem_of_getElem? (i := 231) (by decide +kernel)
theorem fl_X11_72 : Cond.fieldLink RX11 72 "TapeEnd$Row" "missing" "Z" ∈ lw_tbl := List.mem_of_getElem? (i := 232) (by decide +kernel)
theorem fl_X6_19 : Cond.fieldLink RX6 19 "TapeEnd$Row" "lane" "I" ∈ lw_tbl := List.mem_of_getElem? (i := 233) (by decide +kernel)
theorem fl_X11_84 : Cond.fieldLink RX11 84 "TapeEnd$Row" "lane" "I" ∈ lw_tbl := List.mem_of_getElem? (i := 234) (by decide +kernel)
theorem fl_X6_23 : Cond.fieldLink RX6 23 "TapeEnd$Row" "size" "I" ∈ lw_tbl := List.mem_of_getElem? (i := 235) (by decide +kernel)
theorem fl_X11_98 : Cond.fieldLink RX11 98 "TapeEnd$Row" "size" "I" ∈ lw_tbl := List.mem_of_getElem? (i := 236) (by decide +kernel)
theorem su_X6_Obj : Cond.superclass RX6 "java/lang/Object" ∈ lw_tbl := List.mem_of_getElem? (i := 245) (by decide +kernel)
theorem fl_X11_11 : Cond.fieldLink RX11 11 "TapeEnd" "rows" "[LTapeEnd$Row;" ∈ lw_tbl := List.mem_of_getElem? (i := 246) (by decide +kernel)
theorem fl_X11_18 : Cond.fieldLink RX11 18 "TapeEnd" "tape" "LTapeEnd$Tape;" ∈ lw_tbl := List.mem_of_getElem? (i := 247) (by decide +kernel)
theorem fl_X11_25 : Cond.fieldLink RX11 25 "TapeEnd" "trace" "LTapeEnd$Trace;" ∈ lw_tbl := List.mem_of_getElem? (i := 248) (by decide +kernel)
theorem fl_X11_44 : Cond.fieldLink RX11 44 "TapeEnd" "roll" "LTapeEnd$Roll;" ∈ lw_tbl := List.mem_of_getElem? (i := 249) (by decide +kernel)
theorem fl_X11_48 : Cond.fieldLink RX11 48 "TapeEnd" "trial" "LTapeEnd$Roll;" ∈ lw_tbl := List.mem_of_getElem? (i := 250) (by decide +kernel)
theorem fl_X11_31 : Cond.fieldLink RX11 31 "TapeEnd" "images" "[LTapeEnd$Roll;" ∈ lw_tbl := List.mem_of_getElem? (i := 251) (by decide +kernel)
theorem fl_X11_35 : Cond.fieldLink RX11 35 "TapeEnd" "acts" "[LTapeEnd$Roll;" ∈ lw_tbl := List.mem_of_getElem? (i := 252) (by decide +kernel)
theorem fl_X11_134 : Cond.fieldLink RX11 134 "TapeEnd" "oldestAct" "I" ∈ lw_tbl := List.mem_of_getElem? (i := 253) (by decide +kernel)
theorem fl_X11_130 : Cond.fieldLink RX11 130 "TapeEnd" "actsKept" "I" ∈ lw_tbl := List.mem_of_getElem? (i := 254) (by decide +kernel)
theorem fl_X11_114 : Cond.fieldLink RX11 114 "TapeEnd" "latestFault" "I" ∈ lw_tbl := List.mem_of_getElem? (i := 255) (by decide +kernel)
theorem fl_X11_265 : Cond.fieldLink RX11 265 "TapeEnd" "latestFinding" "I" ∈ lw_tbl := List.mem_of_getElem? (i := 256) (by decide +kernel)
theorem su_X11_Obj : Cond.superclass RX11 "java/lang/Object" ∈ lw_tbl := List.mem_of_getElem? (i := 279) (by decide +kernel)
theorem ml_L_13 : Cond.methodLink RL 13 yX11_row ∈ lw_tbl := List.mem_of_getElem? (i := 280) (by decide +kernel)
theorem im_X11_row : Cond.instanceMethod yX11_row ∈ lw_tbl := List.mem_of_getElem? (i := 281) (by decide +kernel)
theorem se_X11_X11_row : Cond.selects RX11 yX11_row yX11_row ∈ lw_tbl := List.mem_of_getElem? (i := 282) (by decide +kernel)
theorem cd_X11_row : Cond.code yX11_row cX11_row 5 (Option.some FieldType.int) ∈ lw_tbl := List.mem_of_getElem? (i := 283) (by decide +kernel)
theorem ml_X11_52 : Cond.methodLink RX11 52 yX11_rowAt ∈ lw_tbl := List.mem_of_getElem? (i := 284) (by decide +kernel)
theorem pm_X11_rowAt : Cond.privateMethod yX11_rowAt ∈ lw_tbl := List.mem_of_getElem? (i := 285) (by decide +kernel)
theorem im_X11_rowAt : Cond.instanceMethod yX11_rowAt ∈ lw_tbl := List.mem_of_getElem? (i := 286) (by decide +kernel)
theorem cd_X11_rowAt : Cond.code yX11_rowAt cX11_rowAt 2 (Option.some (FieldType.object "TapeEnd$Row")) ∈ lw_tbl := List.mem_of_getElem? (i := 287) (by decide +kernel)
theorem ml_X11_56 : Cond.methodLink RX11 56 yX11_within ∈ lw_tbl := List.mem_of_getElem? (i := 288) (by decide +kernel)
theorem st_X11_within : Cond.static yX11_within ∈ lw_tbl := List.mem_of_getElem? (i := 289) (by decide +kernel)
theorem cd_X11_within : Cond.code yX11_within cX11_within 3 (Option.some FieldType.boolean) ∈ lw_tbl := List.mem_of_getElem? (i := 290) (by decide +kernel)
theorem kI_X11_60 : Cond.constant RX11 60 (-1000001) ∈ lw_tbl := List.mem_of_getElem? (i := 291) (by decide +kernel)
theorem ml_X11_61 : Cond.methodLink RX11 61 yX11_finding ∈ lw_tbl := List.mem_of_getElem? (i := 292) (by decide +kernel)
theorem pm_X11_finding : Cond.privateMethod yX11_finding ∈ lw_tbl := List.mem_of_getElem? (i := 293) (by decide +kernel)
theorem im_X11_finding : Cond.instanceMethod yX11_finding ∈ lw_tbl := List.mem_of_getElem? (i := 294) (by decide +kernel)
theorem cd_X11_finding : Cond.code yX11_finding cX11_finding 2 (Option.some FieldType.int) ∈ lw_tbl := List.mem_of_getElem? (i := 295) (by decide +kernel)
theorem kI_X11_312 : Cond.constant RX11 312 (-1000010) ∈ lw_tbl := List.mem_of_getElem? (i := 296) (by decide +kernel)
theorem ml_X11_65 : Cond.methodLink RX11 65 yX6_lay ∈ lw_tbl := List.mem_of_getElem? (i := 297) (by decide +kernel)
theorem im_X6_lay : Cond.instanceMethod yX6_lay ∈ lw_tbl := List.mem_of_getElem? (i := 298) (by decide +kernel)
theorem se_X6_X6_lay : Cond.selects RX6 yX6_lay yX6_lay ∈ lw_tbl := List.mem_of_getElem? (i := 299) (by decide +kernel)
theorem cd_X6_lay : Cond.code yX6_lay cX6_lay 4 none ∈ lw_tbl := List.mem_of_getElem? (i := 300) (by decide +kernel)
theorem ml_X11_69 : Cond.methodLink RX11 69 yX11_unfound ∈ lw_tbl := List.mem_of_getElem? (i := 301) (by decide +kernel)
theorem pm_X11_unfound : Cond.privateMethod yX11_unfound ∈ lw_tbl := List.mem_of_getElem? (i := 302) (by decide +kernel)
theorem im_X11_unfound : Cond.instanceMethod yX11_unfound ∈ lw_tbl := List.mem_of_getElem? (i := 303) (by decide +kernel)
theorem cd_X11_unfound : Cond.code yX11_unfound cX11_unfound 2 (Option.some FieldType.int) ∈ lw_tbl := List.mem_of_getElem? (i := 304) (by decide +kernel)
theorem ml_L_18 : Cond.methodLink RL 18 yX11_set ∈ lw_tbl := List.mem_of_getElem? (i := 305) (by decide +kernel)
theorem im_X11_set : Cond.instanceMethod yX11_set ∈ lw_tbl := List.mem_of_getElem? (i := 306) (by decide +kernel)
theorem se_X11_X11_set : Cond.selects RX11 yX11_set yX11_set ∈ lw_tbl := List.mem_of_getElem? (i := 307) (by decide +kernel)
theorem cd_X11_set : Cond.code yX11_set cX11_set 5 (Option.some FieldType.int) ∈ lw_tbl := List.mem_of_getElem? (i := 308) (by decide +kernel)
theorem ml_X11_76 : Cond.methodLink RX11 76 yX6_holds ∈ lw_tbl := List.mem_of_getElem? (i := 309) (by decide +kernel)
theorem im_X6_holds : Cond.instanceMethod yX6_holds ∈ lw_tbl := List.mem_of_getElem? (i := 310) (by decide +kernel)
theorem se_X6_X6_holds : Cond.selects RX6 yX6_holds yX6_holds ∈ lw_tbl := List.mem_of_getElem? (i := 311) (by decide +kernel)
theorem cd_X6_holds : Cond.code yX6_holds cX6_holds 3 (Option.some FieldType.boolean) ∈ lw_tbl := List.mem_of_getElem? (i := 312) (by decide +kernel)
theorem ml_X11_80 : Cond.methodLink RX11 80 yX6_put ∈ lw_tbl := List.mem_of_getElem? (i := 313) (by decide +kernel)
theorem im_X6_put : Cond.instanceMethod yX6_put ∈ lw_tbl := List.mem_of_getElem? (i := 314) (by decide +kernel)
theorem se_X6_X6_put : Cond.selects RX6 yX6_put yX6_put ∈ lw_tbl := List.mem_of_getElem? (i := 315) (by decide +kernel)
theorem cd_X6_put : Cond.code yX6_put cX6_put 3 (Option.some FieldType.int) ∈ lw_tbl := List.mem_of_getElem? (i := 316) (by decide +kernel)
theorem ml_L_22 : Cond.methodLink RL 22 yX11_copy ∈ lw_tbl := List.mem_of_getElem? (i := 317) (by decide +kernel)
theorem im_X11_copy : Cond.instanceMethod yX11_copy ∈ lw_tbl := List.mem_of_getElem? (i := 318) (by decide +kernel)
theorem se_X11_X11_copy : Cond.selects RX11 yX11_copy yX11_copy ∈ lw_tbl := List.mem_of_getElem? (i := 319) (by decide +kernel)
theorem cd_X11_copy : Cond.code yX11_copy cX11_copy 8 (Option.some FieldType.int) ∈ lw_tbl := List.mem_of_getElem? (i := 320) (by decide +kernel)
theorem ml_X11_92 : Cond.methodLink RX11 92 ⟨"java/lang/System", "arraycopy", "(Ljava/lang/Object;ILjava/lang/Object;II)V"⟩ ∈ lw_tbl := List.mem_of_getElem? (i := 321) (by decide +kernel)
theorem st_o322 : Cond.static ⟨"java/lang/System", "arraycopy", "(Ljava/lang/Object;ILjava/lang/Object;II)V"⟩ ∈ lw_tbl := List.mem_of_getElem? (i := 322) (by decide +kernel)
theorem nt_o323 : Cond.native ⟨"java/lang/System", "arraycopy", "(Ljava/lang/Object;ILjava/lang/Object;II)V"⟩ ∈ lw_tbl := List.mem_of_getElem? (i := 323) (by decide +kernel)
theorem ml_L_27 : Cond.methodLink RL 27 yX11_drop ∈ lw_tbl := List.mem_of_getElem? (i := 324) (by decide +kernel)
theorem im_X11_drop : Cond.instanceMethod yX11_drop ∈ lw_tbl := List.mem_of_getElem? (i := 325) (by decide +kernel)
theorem se_X11_X11_drop : Cond.selects RX11 yX11_drop yX11_drop ∈ lw_tbl := List.mem_of_getElem? (i := 326) (by decide +kernel)
theorem cd_X11_drop : Cond.code yX11_drop cX11_drop 3 (Option.some FieldType.int) ∈ lw_tbl := List.mem_of_getElem? (i := 327) (by decide +kernel)
theorem ml_L_32 : Cond.methodLink RL 32 yX11_feed ∈ lw_tbl := List.mem_of_getElem? (i := 328) (by decide +kernel)
theorem im_X11_feed : Cond.instanceMethod yX11_feed ∈ lw_tbl := List.mem_of_getElem? (i := 329) (by decide +kernel)
theorem se_X11_X11_feed : Cond.selects RX11 yX11_feed yX11_feed ∈ lw_tbl := List.mem_of_getElem? (i := 330) (by decide +kernel)
theorem cd_X11_feed : Cond.code yX11_feed cX11_feed 2 (Option.some FieldType.int) ∈ lw_tbl := List.mem_of_getElem? (i := 331) (by decide +kernel)
theorem kI_X11_102 : Cond.constant RX11 102 (-1000003) ∈ lw_tbl := List.mem_of_getElem? (i := 332) (by decide +kernel)
theorem ml_X11_103 : Cond.methodLink RX11 103 yX9_append ∈ lw_tbl := List.mem_of_getElem? (i := 333) (by decide +kernel)
theorem im_X9_append : Cond.instanceMethod yX9_append ∈ lw_tbl := List.mem_of_getElem? (i := 334) (by decide +kernel)
theorem se_X9_X9_append : Cond.selects RX9 yX9_append yX9_append ∈ lw_tbl := List.mem_of_getElem? (i := 335) (by decide +kernel)
theorem cd_X9_append : Cond.code yX9_append cX9_append 2 none ∈ lw_tbl := List.mem_of_getElem? (i := 336) (by decide +kernel)
theorem ml_L_36 : Cond.methodLink RL 36 yX11_roll ∈ lw_tbl := List.mem_of_getElem? (i := 337) (by decide +kernel)
theorem im_X11_roll : Cond.instanceMethod yX11_roll ∈ lw_tbl := List.mem_of_getElem? (i := 338) (by decide +kernel)
theorem se_X11_X11_roll : Cond.selects RX11 yX11_roll yX11_roll ∈ lw_tbl := List.mem_of_getElem? (i := 339) (by decide +kernel)
theorem cd_X11_roll : Cond.code yX11_roll cX11_roll 2 (Option.some FieldType.int) ∈ lw_tbl := List.mem_of_getElem? (i := 340) (by decide +kernel)
theorem ml_X11_107 : Cond.methodLink RX11 107 yX9_read ∈ lw_tbl := List.mem_of_getElem? (i := 341) (by decide +kernel)
theorem im_X9_read : Cond.instanceMethod yX9_read ∈ lw_tbl := List.mem_of_getElem? (i := 342) (by decide +kernel)
theorem se_X9_X9_read : Cond.selects RX9 yX9_read yX9_read ∈ lw_tbl := List.mem_of_getElem? (i := 343) (by decide +kernel)
theorem cd_X9_read : Cond.code yX9_read cX9_read 3 (Option.some (FieldType.object "TapeEnd$Law")) ∈ lw_tbl := List.mem_of_getElem? (i := 344) (by decide +kernel)
theorem cl_X9_25 : Cond.classLink RX9 25 RX2 ∈ lw_tbl := List.mem_of_getElem? (i := 345) (by decide +kernel)
theorem mn_X9_27 : Cond.methodLinkNest RX9 27 yX2_init "TapeEnd" ∈ lw_tbl := List.mem_of_getElem? (i := 346) (by decide +kernel)
theorem ml_X9_28 : Cond.methodLink RX9 28 yX9_readLaw ∈ lw_tbl := List.mem_of_getElem? (i := 347) (by decide +kernel)
theorem pm_X9_readLaw : Cond.privateMethod yX9_readLaw ∈ lw_tbl := List.mem_of_getElem? (i := 348) (by decide +kernel)
theorem im_X9_readLaw : Cond.instanceMethod yX9_readLaw ∈ lw_tbl := List.mem_of_getElem? (i := 349) (by decide +kernel)
theorem cd_X9_readLaw : Cond.code yX9_readLaw cX9_readLaw 2 none ∈ lw_tbl := List.mem_of_getElem? (i := 350) (by decide +kernel)
theorem ml_X9_53 : Cond.methodLink RX9 53 yX9_takeSign ∈ lw_tbl := List.mem_of_getElem? (i := 351) (by decide +kernel)
theorem pm_X9_takeSign : Cond.privateMethod yX9_takeSign ∈ lw_tbl := List.mem_of_getElem? (i := 352) (by decide +kernel)
theorem im_X9_takeSign : Cond.instanceMethod yX9_takeSign ∈ lw_tbl := List.mem_of_getElem? (i := 353) (by decide +kernel)
theorem cd_X9_takeSign : Cond.code yX9_takeSign cX9_takeSign 2 none ∈ lw_tbl := List.mem_of_getElem? (i := 354) (by decide +kernel)
theorem ml_X9_35 : Cond.methodLink RX9 35 yX9_letterHere ∈ lw_tbl := List.mem_of_getElem? (i := 355) (by decide +kernel)
theorem pm_X9_letterHere : Cond.privateMethod yX9_letterHere ∈ lw_tbl := List.mem_of_getElem? (i := 356) (by decide +kernel)
theorem im_X9_letterHere : Cond.instanceMethod yX9_letterHere ∈ lw_tbl := List.mem_of_getElem? (i := 357) (by decide +kernel)
theorem cd_X9_letterHere : Cond.code yX9_letterHere cX9_letterHere 1 (Option.some FieldType.int) ∈ lw_tbl := List.mem_of_getElem? (i := 358) (by decide +kernel)
theorem ml_X9_49 : Cond.methodLink RX9 49 yX9_fail ∈ lw_tbl := List.mem_of_getElem? (i := 359) (by decide +kernel)
theorem pm_X9_fail : Cond.privateMethod yX9_fail ∈ lw_tbl := List.mem_of_getElem? (i := 360) (by decide +kernel)
theorem im_X9_fail : Cond.instanceMethod yX9_fail ∈ lw_tbl := List.mem_of_getElem? (i := 361) (by decide +kernel)
theorem cd_X9_fail : Cond.code yX9_fail cX9_fail 2 none ∈ lw_tbl := List.mem_of_getElem? (i := 362) (by decide +kernel)
theorem ml_X9_56 : Cond.methodLink RX9 56 yX9_takeNumber ∈ lw_tbl := List.mem_of_getElem? (i := 363) (by decide +kernel)
theorem pm_X9_takeNumber : Cond.privateMethod yX9_takeNumber ∈ lw_tbl := List.mem_of_getElem? (i := 364) (by decide +kernel)
theorem im_X9_takeNumber : Cond.instanceMethod yX9_takeNumber ∈ lw_tbl := List.mem_of_getElem? (i := 365) (by decide +kernel)
theorem cd_X9_takeNumber : Cond.code yX9_takeNumber cX9_takeNumber 6 (Option.some FieldType.int) ∈ lw_tbl := List.mem_of_getElem? (i := 366) (by decide +kernel)
theorem ml_X9_109 : Cond.methodLink RX9 109 yX9_figuresHere ∈ lw_tbl := List.mem_of_getElem? (i := 367) (by decide +kernel)
theorem pm_X9_figuresHere : Cond.privateMethod yX9_figuresHere ∈ lw_tbl := List.mem_of_getElem? (i := 368) (by decide +kernel)
theorem im_X9_figuresHere : Cond.instanceMethod yX9_figuresHere ∈ lw_tbl := List.mem_of_getElem? (i := 369) (by decide +kernel)
theorem cd_X9_figuresHere : Cond.code yX9_figuresHere cX9_figuresHere 2 (Option.some FieldType.int) ∈ lw_tbl := List.mem_of_getElem? (i := 370) (by decide +kernel)
theorem ml_X9_32 : Cond.methodLink RX9 32 yX9_readPlaces ∈ lw_tbl := List.mem_of_getElem? (i := 371) (by decide +kernel)
theorem pm_X9_readPlaces : Cond.privateMethod yX9_readPlaces ∈ lw_tbl := List.mem_of_getElem? (i := 372) (by decide +kernel)
theorem im_X9_readPlaces : Cond.instanceMethod yX9_readPlaces ∈ lw_tbl := List.mem_of_getElem? (i := 373) (by decide +kernel)
theorem cd_X9_readPlaces : Cond.code yX9_readPlaces cX9_readPlaces 3 none ∈ lw_tbl := List.mem_of_getElem? (i := 374) (by decide +kernel)
theorem ml_X9_39 : Cond.methodLink RX9 39 yX9_readRidge ∈ lw_tbl := List.mem_of_getElem? (i := 375) (by decide +kernel)
theorem pm_X9_readRidge : Cond.privateMethod yX9_readRidge ∈ lw_tbl := List.mem_of_getElem? (i := 376) (by decide +kernel)
theorem im_X9_readRidge : Cond.instanceMethod yX9_readRidge ∈ lw_tbl := List.mem_of_getElem? (i := 377) (by decide +kernel)
theorem cd_X9_readRidge : Cond.code yX9_readRidge cX9_readRidge 5 none ∈ lw_tbl := List.mem_of_getElem? (i := 378) (by decide +kernel)
theorem ml_X9_42 : Cond.methodLink RX9 42 yX9_isSort ∈ lw_tbl := List.mem_of_getElem? (i := 379) (by decide +kernel)
theorem st_X9_isSort : Cond.static yX9_isSort ∈ lw_tbl := List.mem_of_getElem? (i := 380) (by decide +kernel)
theorem cd_X9_isSort : Cond.code yX9_isSort cX9_isSort 1 (Option.some FieldType.boolean) ∈ lw_tbl := List.mem_of_getElem? (i := 381) (by decide +kernel)
theorem ml_X9_46 : Cond.methodLink RX9 46 yX9_readSeeker ∈ lw_tbl := List.mem_of_getElem? (i := 382) (by decide +kernel)
theorem pm_X9_readSeeker : Cond.privateMethod yX9_readSeeker ∈ lw_tbl := List.mem_of_getElem? (i := 383) (by decide +kernel)
theorem im_X9_readSeeker : Cond.instanceMethod yX9_readSeeker ∈ lw_tbl := List.mem_of_getElem? (i := 384) (by decide +kernel)
theorem cd_X9_readSeeker : Cond.code yX9_readSeeker cX9_readSeeker 5 none ∈ lw_tbl := List.mem_of_getElem? (i := 385) (by decide +kernel)
theorem ml_X9_88 : Cond.methodLink RX9 88 yX9_seekerOf ∈ lw_tbl := List.mem_of_getElem? (i := 386) (by decide +kernel)
theorem st_X9_seekerOf : Cond.static yX9_seekerOf ∈ lw_tbl := List.mem_of_getElem? (i := 387) (by decide +kernel)
theorem cd_X9_seekerOf : Cond.code yX9_seekerOf cX9_seekerOf 4 (Option.some (FieldType.object "TapeEnd$Seeker")) ∈ lw_tbl := List.mem_of_getElem? (i := 388) (by decide +kernel)
theorem cl_X9_92 : Cond.classLink RX9 92 RX0 ∈ lw_tbl := List.mem_of_getElem? (i := 389) (by decide +kernel)
theorem ib_X0 : Cond.instantiable RX0 3 ∈ lw_tbl := List.mem_of_getElem? (i := 390) (by decide +kernel)
theorem ml_X9_94 : Cond.methodLink RX9 94 yX0_init ∈ lw_tbl := List.mem_of_getElem? (i := 391) (by decide +kernel)
theorem im_X0_init : Cond.instanceMethod yX0_init ∈ lw_tbl := List.mem_of_getElem? (i := 392) (by decide +kernel)
theorem cd_X0_init : Cond.code yX0_init cX0_init 4 none ∈ lw_tbl := List.mem_of_getElem? (i := 393) (by decide +kernel)
theorem ml_X0_1 : Cond.methodLink RX0 1 yX5_init ∈ lw_tbl := List.mem_of_getElem? (i := 394) (by decide +kernel)
theorem im_X5_init : Cond.instanceMethod yX5_init ∈ lw_tbl := List.mem_of_getElem? (i := 395) (by decide +kernel)
theorem cd_X5_init : Cond.code yX5_init cX5_init 4 none ∈ lw_tbl := List.mem_of_getElem? (i := 396) (by decide +kernel)
theorem ml_X5_1 : Cond.methodLink RX5 1 yX7_init ∈ lw_tbl := List.mem_of_getElem? (i := 397) (by decide +kernel)
theorem im_X7_init : Cond.instanceMethod yX7_init ∈ lw_tbl := List.mem_of_getElem? (i := 398) (by decide +kernel)
theorem cd_X7_init : Cond.code yX7_init cX7_init 4 none ∈ lw_tbl := List.mem_of_getElem? (i := 399) (by decide +kernel)
theorem ml_X7_1 : Cond.methodLink RX7 1 ⟨"java/lang/Object", "<init>", "()V"⟩ ∈ lw_tbl := List.mem_of_getElem? (i := 400) (by decide +kernel)
theorem fl_X7_7 : Cond.fieldLink RX7 7 "TapeEnd$Seeker" "number" "I" ∈ lw_tbl := List.mem_of_getElem? (i := 401) (by decide +kernel)
theorem fl_X11_292 : Cond.fieldLink RX11 292 "TapeEnd$Seeker" "number" "I" ∈ lw_tbl := List.mem_of_getElem? (i := 402) (by decide +kernel)
theorem fl_X7_13 : Cond.fieldLink RX7 13 "TapeEnd$Seeker" "with" "I" ∈ lw_tbl := List.mem_of_getElem? (i := 403) (by decide +kernel)
theorem fl_X1_7 : Cond.fieldLink RX1 7 "TapeEnd$Lamp" "with" "I" ∈ lw_tbl := List.mem_of_getElem? (i := 404) (by decide +kernel)
theorem sf_X1_with : Cond.sameField "TapeEnd$Lamp" "TapeEnd$Seeker" "with" "I" ∈ lw_tbl := List.mem_of_getElem? (i := 405) (by decide +kernel)
theorem fl_X11_207 : Cond.fieldLink RX11 207 "TapeEnd$Seeker" "with" "I" ∈ lw_tbl := List.mem_of_getElem? (i := 406) (by decide +kernel)
theorem fl_X7_16 : Cond.fieldLink RX7 16 "TapeEnd$Seeker" "against" "I" ∈ lw_tbl := List.mem_of_getElem? (i := 407) (by decide +kernel)
theorem fl_X1_13 : Cond.fieldLink RX1 13 "TapeEnd$Lamp" "against" "I" ∈ lw_tbl := List.mem_of_getElem? (i := 408) (by decide +kernel)
theorem sf_X1_against : Cond.sameField "TapeEnd$Lamp" "TapeEnd$Seeker" "against" "I" ∈ lw_tbl := List.mem_of_getElem? (i := 409) (by decide +kernel)
theorem fl_X5_42 : Cond.fieldLink RX5 42 "TapeEnd$Round" "against" "I" ∈ lw_tbl := List.mem_of_getElem? (i := 410) (by decide +kernel)
theorem sf_X5_against : Cond.sameField "TapeEnd$Round" "TapeEnd$Seeker" "against" "I" ∈ lw_tbl := List.mem_of_getElem? (i := 411) (by decide +kernel)
theorem fl_X11_210 : Cond.fieldLink RX11 210 "TapeEnd$Seeker" "against" "I" ∈ lw_tbl := List.mem_of_getElem? (i := 412) (by decide +kernel)
theorem su_X0_X5 : Cond.superclass RX0 RX5 ∈ lw_tbl := List.mem_of_getElem? (i := 419) (by decide +kernel)
theorem cl_X9_97 : Cond.classLink RX9 97 RX1 ∈ lw_tbl := List.mem_of_getElem? (i := 420) (by decide +kernel)
theorem ib_X1 : Cond.instantiable RX1 3 ∈ lw_tbl := List.mem_of_getElem? (i := 421) (by decide +kernel)
theorem ml_X9_99 : Cond.methodLink RX9 99 yX1_init ∈ lw_tbl := List.mem_of_getElem? (i := 422) (by decide +kernel)
theorem im_X1_init : Cond.instanceMethod yX1_init ∈ lw_tbl := List.mem_of_getElem? (i := 423) (by decide +kernel)
theorem cd_X1_init : Cond.code yX1_init cX1_init 4 none ∈ lw_tbl := List.mem_of_getElem? (i := 424) (by decide +kernel)
theorem ml_X1_1 : Cond.methodLink RX1 1 yX5_init ∈ lw_tbl := List.mem_of_getElem? (i := 425) (by decide +kernel)
theorem su_X1_X5 : Cond.superclass RX1 RX5 ∈ lw_tbl := List.mem_of_getElem? (i := 429) (by decide +kernel)
theorem cl_X9_100 : Cond.classLink RX9 100 RX3 ∈ lw_tbl := List.mem_of_getElem? (i := 430) (by decide +kernel)
theorem ib_X3 : Cond.instantiable RX3 3 ∈ lw_tbl := List.mem_of_getElem? (i := 431) (by decide +kernel)
theorem ml_X9_102 : Cond.methodLink RX9 102 yX3_init ∈ lw_tbl := List.mem_of_getElem? (i := 432) (by decide +kernel)
theorem im_X3_init : Cond.instanceMethod yX3_init ∈ lw_tbl := List.mem_of_getElem? (i := 433) (by decide +kernel)
theorem cd_X3_init : Cond.code yX3_init cX3_init 4 none ∈ lw_tbl := List.mem_of_getElem? (i := 434) (by decide +kernel)
theorem ml_X3_1 : Cond.methodLink RX3 1 yX7_init ∈ lw_tbl := List.mem_of_getElem? (i := 435) (by decide +kernel)
theorem su_X3_X7 : Cond.superclass RX3 RX7 ∈ lw_tbl := List.mem_of_getElem? (i := 439) (by decide +kernel)
theorem cl_X9_103 : Cond.classLink RX9 103 RX8 ∈ lw_tbl := List.mem_of_getElem? (i := 440) (by decide +kernel)
theorem ib_X8 : Cond.instantiable RX8 3 ∈ lw_tbl := List.mem_of_getElem? (i := 441) (by decide +kernel)
theorem ml_X9_105 : Cond.methodLink RX9 105 yX8_init ∈ lw_tbl := List.mem_of_getElem? (i := 442) (by decide +kernel)
theorem im_X8_init : Cond.instanceMethod yX8_init ∈ lw_tbl := List.mem_of_getElem? (i := 443) (by decide +kernel)
theorem cd_X8_init : Cond.code yX8_init cX8_init 4 none ∈ lw_tbl := List.mem_of_getElem? (i := 444) (by decide +kernel)
theorem ml_X8_3 : Cond.methodLink RX8 3 yX3_init ∈ lw_tbl := List.mem_of_getElem? (i := 445) (by decide +kernel)
theorem su_X8_X3 : Cond.superclass RX8 RX3 ∈ lw_tbl := List.mem_of_getElem? (i := 449) (by decide +kernel)
theorem cl_X9_106 : Cond.classLink RX9 106 RX5 ∈ lw_tbl := List.mem_of_getElem? (i := 450) (by decide +kernel)
theorem ib_X5 : Cond.instantiable RX5 3 ∈ lw_tbl := List.mem_of_getElem? (i := 451) (by decide +kernel)
theorem ml_X9_108 : Cond.methodLink RX9 108 yX5_init ∈ lw_tbl := List.mem_of_getElem? (i := 452) (by decide +kernel)
theorem su_X5_X7 : Cond.superclass RX5 RX7 ∈ lw_tbl := List.mem_of_getElem? (i := 456) (by decide +kernel)
theorem kI_X11_117 : Cond.constant RX11 117 (-1000100) ∈ lw_tbl := List.mem_of_getElem? (i := 457) (by decide +kernel)
theorem ml_X11_121 : Cond.methodLink RX11 121 yX4_unwind ∈ lw_tbl := List.mem_of_getElem? (i := 458) (by decide +kernel)
theorem im_X4_unwind : Cond.instanceMethod yX4_unwind ∈ lw_tbl := List.mem_of_getElem? (i := 459) (by decide +kernel)
theorem se_X4_X4_unwind : Cond.selects RX4 yX4_unwind yX4_unwind ∈ lw_tbl := List.mem_of_getElem? (i := 460) (by decide +kernel)
theorem cd_X4_unwind : Cond.code yX4_unwind cX4_unwind 3 none ∈ lw_tbl := List.mem_of_getElem? (i := 461) (by decide +kernel)
theorem ml_X11_124 : Cond.methodLink RX11 124 yX11_forgetActs ∈ lw_tbl := List.mem_of_getElem? (i := 462) (by decide +kernel)
theorem pm_X11_forgetActs : Cond.privateMethod yX11_forgetActs ∈ lw_tbl := List.mem_of_getElem? (i := 463) (by decide +kernel)
theorem im_X11_forgetActs : Cond.instanceMethod yX11_forgetActs ∈ lw_tbl := List.mem_of_getElem? (i := 464) (by decide +kernel)
theorem cd_X11_forgetActs : Cond.code yX11_forgetActs cX11_forgetActs 1 none ∈ lw_tbl := List.mem_of_getElem? (i := 465) (by decide +kernel)
theorem ml_L_41 : Cond.methodLink RL 41 yX11_fault ∈ lw_tbl := List.mem_of_getElem? (i := 466) (by decide +kernel)
theorem im_X11_fault : Cond.instanceMethod yX11_fault ∈ lw_tbl := List.mem_of_getElem? (i := 467) (by decide +kernel)
theorem se_X11_X11_fault : Cond.selects RX11 yX11_fault yX11_fault ∈ lw_tbl := List.mem_of_getElem? (i := 468) (by decide +kernel)
theorem cd_X11_fault : Cond.code yX11_fault cX11_fault 1 (Option.some FieldType.int) ∈ lw_tbl := List.mem_of_getElem? (i := 469) (by decide +kernel)
theorem ml_L_45 : Cond.methodLink RL 45 yX11_undo ∈ lw_tbl := List.mem_of_getElem? (i := 470) (by decide +kernel)
theorem im_X11_undo : Cond.instanceMethod yX11_undo ∈ lw_tbl := List.mem_of_getElem? (i := 471) (by decide +kernel)
theorem se_X11_X11_undo : Cond.selects RX11 yX11_undo yX11_undo ∈ lw_tbl := List.mem_of_getElem? (i := 472) (by decide +kernel)
theorem cd_X11_undo : Cond.code yX11_undo cX11_undo 1 (Option.some FieldType.int) ∈ lw_tbl := List.mem_of_getElem? (i := 473) (by decide +kernel)
theorem kI_X11_133 : Cond.constant RX11 133 (-1000002) ∈ lw_tbl := List.mem_of_getElem? (i := 474) (by decide +kernel)
theorem ml_X11_137 : Cond.methodLink RX11 137 yX4_become ∈ lw_tbl := List.mem_of_getElem? (i := 475) (by decide +kernel)
theorem im_X4_become : Cond.instanceMethod yX4_become ∈ lw_tbl := List.mem_of_getElem? (i := 476) (by decide +kernel)
theorem se_X4_X4_become : Cond.selects RX4 yX4_become yX4_become ∈ lw_tbl := List.mem_of_getElem? (i := 477) (by decide +kernel)
theorem cd_X4_become : Cond.code yX4_become cX4_become 2 none ∈ lw_tbl := List.mem_of_getElem? (i := 478) (by decide +kernel)
theorem ml_X4_51 : Cond.methodLink RX4 51 ⟨"java/lang/System", "arraycopy", "(Ljava/lang/Object;ILjava/lang/Object;II)V"⟩ ∈ lw_tbl := List.mem_of_getElem? (i := 479) (by decide +kernel)
theorem ml_L_49 : Cond.methodLink RL 49 yX11_touch ∈ lw_tbl := List.mem_of_getElem? (i := 480) (by decide +kernel)
theorem im_X11_touch : Cond.instanceMethod yX11_touch ∈ lw_tbl := List.mem_of_getElem? (i := 481) (by decide +kernel)
theorem se_X11_X11_touch : Cond.selects RX11 yX11_touch yX11_touch ∈ lw_tbl := List.mem_of_getElem? (i := 482) (by decide +kernel)
theorem cd_X11_touch : Cond.code yX11_touch cX11_touch 4 (Option.some FieldType.int) ∈ lw_tbl := List.mem_of_getElem? (i := 483) (by decide +kernel)
theorem ml_X11_141 : Cond.methodLink RX11 141 yX11_seekerAt ∈ lw_tbl := List.mem_of_getElem? (i := 484) (by decide +kernel)
theorem pm_X11_seekerAt : Cond.privateMethod yX11_seekerAt ∈ lw_tbl := List.mem_of_getElem? (i := 485) (by decide +kernel)
theorem im_X11_seekerAt : Cond.instanceMethod yX11_seekerAt ∈ lw_tbl := List.mem_of_getElem? (i := 486) (by decide +kernel)
theorem cd_X11_seekerAt : Cond.code yX11_seekerAt cX11_seekerAt 2 (Option.some (FieldType.object "TapeEnd$Seeker")) ∈ lw_tbl := List.mem_of_getElem? (i := 487) (by decide +kernel)
theorem ml_X11_145 : Cond.methodLink RX11 145 yX4_takeTouch ∈ lw_tbl := List.mem_of_getElem? (i := 488) (by decide +kernel)
theorem im_X4_takeTouch : Cond.instanceMethod yX4_takeTouch ∈ lw_tbl := List.mem_of_getElem? (i := 489) (by decide +kernel)
theorem se_X4_X4_takeTouch : Cond.selects RX4 yX4_takeTouch yX4_takeTouch ∈ lw_tbl := List.mem_of_getElem? (i := 490) (by decide +kernel)
theorem cd_X4_takeTouch : Cond.code yX4_takeTouch cX4_takeTouch 5 none ∈ lw_tbl := List.mem_of_getElem? (i := 491) (by decide +kernel)
theorem ml_X4_57 : Cond.methodLink RX4 57 yX7_feel ∈ lw_tbl := List.mem_of_getElem? (i := 492) (by decide +kernel)
theorem im_X7_feel : Cond.instanceMethod yX7_feel ∈ lw_tbl := List.mem_of_getElem? (i := 493) (by decide +kernel)
theorem sm_X7_feel_X7 : Cond.sameMethod "TapeEnd$Seeker" "TapeEnd$Seeker" "feel" "(I)I" ∈ lw_tbl := List.mem_of_getElem? (i := 494) (by decide +kernel)
theorem se_X0_X7_feel : Cond.selects RX0 yX7_feel yX7_feel ∈ lw_tbl := List.mem_of_getElem? (i := 495) (by decide +kernel)
theorem se_X1_X7_feel_X1_feel : Cond.selects RX1 yX7_feel yX1_feel ∈ lw_tbl := List.mem_of_getElem? (i := 496) (by decide +kernel)
theorem im_X1_feel : Cond.instanceMethod yX1_feel ∈ lw_tbl := List.mem_of_getElem? (i := 497) (by decide +kernel)
theorem cd_X1_feel : Cond.code yX1_feel cX1_feel 2 (Option.some FieldType.int) ∈ lw_tbl := List.mem_of_getElem? (i := 498) (by decide +kernel)
theorem ml_X1_16 : Cond.methodLink RX1 16 yJ9_max_7cf53 ∈ lw_tbl := List.mem_of_getElem? (i := 499) (by decide +kernel)
theorem st_J9_max_7cf53 : Cond.static yJ9_max_7cf53 ∈ lw_tbl := List.mem_of_getElem? (i := 500) (by decide +kernel)
theorem cd_J9_max_7cf53 : Cond.code yJ9_max_7cf53 cJ9_max_7cf53 2 (Option.some FieldType.int) ∈ lw_tbl := List.mem_of_getElem? (i := 501) (by decide +kernel)
theorem se_X3_X7_feel : Cond.selects RX3 yX7_feel yX7_feel ∈ lw_tbl := List.mem_of_getElem? (i := 502) (by decide +kernel)
theorem se_X5_X7_feel : Cond.selects RX5 yX7_feel yX7_feel ∈ lw_tbl := List.mem_of_getElem? (i := 503) (by decide +kernel)
theorem se_X8_X7_feel : Cond.selects RX8 yX7_feel yX7_feel ∈ lw_tbl := List.mem_of_getElem? (i := 504) (by decide +kernel)
theorem cd_X7_feel : Cond.code yX7_feel cX7_feel 2 (Option.some FieldType.int) ∈ lw_tbl := List.mem_of_getElem? (i := 505) (by decide +kernel)
theorem ml_X4_66 : Cond.methodLink RX4 66 yX4_weigh ∈ lw_tbl := List.mem_of_getElem? (i := 506) (by decide +kernel)
theorem im_X4_weigh : Cond.instanceMethod yX4_weigh ∈ lw_tbl := List.mem_of_getElem? (i := 507) (by decide +kernel)
theorem se_X4_X4_weigh : Cond.selects RX4 yX4_weigh yX4_weigh ∈ lw_tbl := List.mem_of_getElem? (i := 508) (by decide +kernel)
theorem cd_X4_weigh : Cond.code yX4_weigh cX4_weigh 4 none ∈ lw_tbl := List.mem_of_getElem? (i := 509) (by decide +kernel)
theorem ml_X11_149 : Cond.methodLink RX11 149 yX4_together ∈ lw_tbl := List.mem_of_getElem? (i := 510) (by decide +kernel)
theorem im_X4_together : Cond.instanceMethod yX4_together ∈ lw_tbl := List.mem_of_getElem? (i := 511) (by decide +kernel)
theorem se_X4_X4_together : Cond.selects RX4 yX4_together yX4_together ∈ lw_tbl := List.mem_of_getElem? (i := 512) (by decide +kernel)
theorem cd_X4_together : Cond.code yX4_together cX4_together 4 (Option.some FieldType.long) ∈ lw_tbl := List.mem_of_getElem? (i := 513) (by decide +kernel)
theorem ml_X11_156 : Cond.methodLink RX11 156 yX11_keepAct ∈ lw_tbl := List.mem_of_getElem? (i := 514) (by decide +kernel)
theorem pm_X11_keepAct : Cond.privateMethod yX11_keepAct ∈ lw_tbl := List.mem_of_getElem? (i := 515) (by decide +kernel)
theorem im_X11_keepAct : Cond.instanceMethod yX11_keepAct ∈ lw_tbl := List.mem_of_getElem? (i := 516) (by decide +kernel)
theorem cd_X11_keepAct : Cond.code yX11_keepAct cX11_keepAct 1 none ∈ lw_tbl := List.mem_of_getElem? (i := 517) (by decide +kernel)
theorem ml_L_54 : Cond.methodLink RL 54 yX11_go ∈ lw_tbl := List.mem_of_getElem? (i := 518) (by decide +kernel)
theorem im_X11_go : Cond.instanceMethod yX11_go ∈ lw_tbl := List.mem_of_getElem? (i := 519) (by decide +kernel)
theorem se_X11_X11_go : Cond.selects RX11 yX11_go yX11_go ∈ lw_tbl := List.mem_of_getElem? (i := 520) (by decide +kernel)
theorem cd_X11_go : Cond.code yX11_go cX11_go 2 (Option.some FieldType.int) ∈ lw_tbl := List.mem_of_getElem? (i := 521) (by decide +kernel)
theorem ml_X11_159 : Cond.methodLink RX11 159 yX11_noRoll ∈ lw_tbl := List.mem_of_getElem? (i := 522) (by decide +kernel)
theorem pm_X11_noRoll : Cond.privateMethod yX11_noRoll ∈ lw_tbl := List.mem_of_getElem? (i := 523) (by decide +kernel)
theorem im_X11_noRoll : Cond.instanceMethod yX11_noRoll ∈ lw_tbl := List.mem_of_getElem? (i := 524) (by decide +kernel)
theorem cd_X11_noRoll : Cond.code yX11_noRoll cX11_noRoll 1 (Option.some FieldType.boolean) ∈ lw_tbl := List.mem_of_getElem? (i := 525) (by decide +kernel)
theorem ml_X11_163 : Cond.methodLink RX11 163 yX4_advance ∈ lw_tbl := List.mem_of_getElem? (i := 526) (by decide +kernel)
theorem im_X4_advance : Cond.instanceMethod yX4_advance ∈ lw_tbl := List.mem_of_getElem? (i := 527) (by decide +kernel)
theorem se_X4_X4_advance : Cond.selects RX4 yX4_advance yX4_advance ∈ lw_tbl := List.mem_of_getElem? (i := 528) (by decide +kernel)
theorem cd_X4_advance : Cond.code yX4_advance cX4_advance 2 none ∈ lw_tbl := List.mem_of_getElem? (i := 529) (by decide +kernel)
theorem ml_X4_70 : Cond.methodLink RX4 70 yX2_around ∈ lw_tbl := List.mem_of_getElem? (i := 530) (by decide +kernel)
theorem im_X2_around : Cond.instanceMethod yX2_around ∈ lw_tbl := List.mem_of_getElem? (i := 531) (by decide +kernel)
theorem se_X2_X2_around : Cond.selects RX2 yX2_around yX2_around ∈ lw_tbl := List.mem_of_getElem? (i := 532) (by decide +kernel)
theorem cd_X2_around : Cond.code yX2_around cX2_around 2 (Option.some FieldType.int) ∈ lw_tbl := List.mem_of_getElem? (i := 533) (by decide +kernel)
theorem ml_X2_28 : Cond.methodLink RX2 28 yJ9_floorMod_7cf53 ∈ lw_tbl := List.mem_of_getElem? (i := 534) (by decide +kernel)
theorem st_J9_floorMod_7cf53 : Cond.static yJ9_floorMod_7cf53 ∈ lw_tbl := List.mem_of_getElem? (i := 535) (by decide +kernel)
theorem cd_J9_floorMod_7cf53 : Cond.code yJ9_floorMod_7cf53 cJ9_floorMod_7cf53 3 (Option.some FieldType.int) ∈ lw_tbl := List.mem_of_getElem? (i := 536) (by decide +kernel)
theorem ml_L_58 : Cond.methodLink RL 58 yX11_over ∈ lw_tbl := List.mem_of_getElem? (i := 537) (by decide +kernel)
theorem im_X11_over : Cond.instanceMethod yX11_over ∈ lw_tbl := List.mem_of_getElem? (i := 538) (by decide +kernel)
theorem se_X11_X11_over : Cond.selects RX11 yX11_over yX11_over ∈ lw_tbl := List.mem_of_getElem? (i := 539) (by decide +kernel)
theorem cd_X11_over : Cond.code yX11_over cX11_over 1 (Option.some FieldType.int) ∈ lw_tbl := List.mem_of_getElem? (i := 540) (by decide +kernel)
theorem ml_X11_169 : Cond.methodLink RX11 169 yX4_turn ∈ lw_tbl := List.mem_of_getElem? (i := 541) (by decide +kernel)
theorem im_X4_turn : Cond.instanceMethod yX4_turn ∈ lw_tbl := List.mem_of_getElem? (i := 542) (by decide +kernel)
theorem se_X4_X4_turn : Cond.selects RX4 yX4_turn yX4_turn ∈ lw_tbl := List.mem_of_getElem? (i := 543) (by decide +kernel)
theorem cd_X4_turn : Cond.code yX4_turn cX4_turn 1 none ∈ lw_tbl := List.mem_of_getElem? (i := 544) (by decide +kernel)
theorem ml_L_62 : Cond.methodLink RL 62 yX11_seek ∈ lw_tbl := List.mem_of_getElem? (i := 545) (by decide +kernel)
theorem im_X11_seek : Cond.instanceMethod yX11_seek ∈ lw_tbl := List.mem_of_getElem? (i := 546) (by decide +kernel)
theorem se_X11_X11_seek : Cond.selects RX11 yX11_seek yX11_seek ∈ lw_tbl := List.mem_of_getElem? (i := 547) (by decide +kernel)
theorem cd_X11_seek : Cond.code yX11_seek cX11_seek 3 (Option.some FieldType.int) ∈ lw_tbl := List.mem_of_getElem? (i := 548) (by decide +kernel)
theorem ml_X11_175 : Cond.methodLink RX11 175 yX7_nextPlace ∈ lw_tbl := List.mem_of_getElem? (i := 549) (by decide +kernel)
theorem de_X7_nextPlace : Cond.declares yX7_nextPlace ∈ lw_tbl := List.mem_of_getElem? (i := 550) (by decide +kernel)
theorem sm_X7_nextPlace_X7 : Cond.sameMethod "TapeEnd$Seeker" "TapeEnd$Seeker" "nextPlace" "(LTapeEnd$Roll;)I" ∈ lw_tbl := List.mem_of_getElem? (i := 551) (by decide +kernel)
theorem se_X0_X7_nextPlace_X0_nextPlace : Cond.selects RX0 yX7_nextPlace yX0_nextPlace ∈ lw_tbl := List.mem_of_getElem? (i := 552) (by decide +kernel)
theorem im_X0_nextPlace : Cond.instanceMethod yX0_nextPlace ∈ lw_tbl := List.mem_of_getElem? (i := 553) (by decide +kernel)
theorem cd_X0_nextPlace : Cond.code yX0_nextPlace cX0_nextPlace 2 (Option.some FieldType.int) ∈ lw_tbl := List.mem_of_getElem? (i := 554) (by decide +kernel)
theorem ml_X0_23 : Cond.methodLink RX0 23 yX2_around ∈ lw_tbl := List.mem_of_getElem? (i := 555) (by decide +kernel)
theorem ml_X0_29 : Cond.methodLink RX0 29 yX5_nextPlace ∈ lw_tbl := List.mem_of_getElem? (i := 556) (by decide +kernel)
theorem im_X5_nextPlace : Cond.instanceMethod yX5_nextPlace ∈ lw_tbl := List.mem_of_getElem? (i := 557) (by decide +kernel)
theorem cd_X5_nextPlace : Cond.code yX5_nextPlace cX5_nextPlace 2 (Option.some FieldType.int) ∈ lw_tbl := List.mem_of_getElem? (i := 558) (by decide +kernel)
theorem ml_X5_20 : Cond.methodLink RX5 20 yX2_around ∈ lw_tbl := List.mem_of_getElem? (i := 559) (by decide +kernel)
theorem se_X1_X7_nextPlace_X5_nextPlace : Cond.selects RX1 yX7_nextPlace yX5_nextPlace ∈ lw_tbl := List.mem_of_getElem? (i := 560) (by decide +kernel)
theorem se_X3_X7_nextPlace_X3_nextPlace : Cond.selects RX3 yX7_nextPlace yX3_nextPlace ∈ lw_tbl := List.mem_of_getElem? (i := 561) (by decide +kernel)
theorem im_X3_nextPlace : Cond.instanceMethod yX3_nextPlace ∈ lw_tbl := List.mem_of_getElem? (i := 562) (by decide +kernel)
theorem cd_X3_nextPlace : Cond.code yX3_nextPlace cX3_nextPlace 2 (Option.some FieldType.int) ∈ lw_tbl := List.mem_of_getElem? (i := 563) (by decide +kernel)
theorem ml_X3_13 : Cond.methodLink RX3 13 yX4_likeliestBut ∈ lw_tbl := List.mem_of_getElem? (i := 564) (by decide +kernel)
theorem im_X4_likeliestBut : Cond.instanceMethod yX4_likeliestBut ∈ lw_tbl := List.mem_of_getElem? (i := 565) (by decide +kernel)
theorem se_X4_X4_likeliestBut : Cond.selects RX4 yX4_likeliestBut yX4_likeliestBut ∈ lw_tbl := List.mem_of_getElem? (i := 566) (by decide +kernel)
theorem cd_X4_likeliestBut : Cond.code yX4_likeliestBut cX4_likeliestBut 6 (Option.some FieldType.int) ∈ lw_tbl := List.mem_of_getElem? (i := 567) (by decide +kernel)
theorem kL_X4_95 : Cond.constantLong RX4 95 (-1) ∈ lw_tbl := List.mem_of_getElem? (i := 568) (by decide +kernel)
theorem se_X5_X7_nextPlace_X5_nextPlace : Cond.selects RX5 yX7_nextPlace yX5_nextPlace ∈ lw_tbl := List.mem_of_getElem? (i := 569) (by decide +kernel)
theorem se_X8_X7_nextPlace_X8_nextPlace : Cond.selects RX8 yX7_nextPlace yX8_nextPlace ∈ lw_tbl := List.mem_of_getElem? (i := 570) (by decide +kernel)
theorem im_X8_nextPlace : Cond.instanceMethod yX8_nextPlace ∈ lw_tbl := List.mem_of_getElem? (i := 571) (by decide +kernel)
theorem cd_X8_nextPlace : Cond.code yX8_nextPlace cX8_nextPlace 2 (Option.some FieldType.int) ∈ lw_tbl := List.mem_of_getElem? (i := 572) (by decide +kernel)
theorem kI_X8_15 : Cond.constant RX8 15 (-1000000) ∈ lw_tbl := List.mem_of_getElem? (i := 573) (by decide +kernel)
theorem ml_X8_19 : Cond.methodLink RX8 19 yX3_nextPlace ∈ lw_tbl := List.mem_of_getElem? (i := 574) (by decide +kernel)
theorem ml_X11_181 : Cond.methodLink RX11 181 yX4_moveTo ∈ lw_tbl := List.mem_of_getElem? (i := 575) (by decide +kernel)
theorem im_X4_moveTo : Cond.instanceMethod yX4_moveTo ∈ lw_tbl := List.mem_of_getElem? (i := 576) (by decide +kernel)
theorem se_X4_X4_moveTo : Cond.selects RX4 yX4_moveTo yX4_moveTo ∈ lw_tbl := List.mem_of_getElem? (i := 577) (by decide +kernel)
theorem cd_X4_moveTo : Cond.code yX4_moveTo cX4_moveTo 3 none ∈ lw_tbl := List.mem_of_getElem? (i := 578) (by decide +kernel)
theorem ml_X4_79 : Cond.methodLink RX4 79 yJ9_abs_0f7a4 ∈ lw_tbl := List.mem_of_getElem? (i := 579) (by decide +kernel)
theorem st_J9_abs_0f7a4 : Cond.static yJ9_abs_0f7a4 ∈ lw_tbl := List.mem_of_getElem? (i := 580) (by decide +kernel)
theorem cd_J9_abs_0f7a4 : Cond.code yJ9_abs_0f7a4 cJ9_abs_0f7a4 1 (Option.some FieldType.int) ∈ lw_tbl := List.mem_of_getElem? (i := 581) (by decide +kernel)
theorem ml_X4_84 : Cond.methodLink RX4 84 yJ9_min_7cf53 ∈ lw_tbl := List.mem_of_getElem? (i := 582) (by decide +kernel)
theorem st_J9_min_7cf53 : Cond.static yJ9_min_7cf53 ∈ lw_tbl := List.mem_of_getElem? (i := 583) (by decide +kernel)
theorem cd_J9_min_7cf53 : Cond.code yJ9_min_7cf53 cJ9_min_7cf53 2 (Option.some FieldType.int) ∈ lw_tbl := List.mem_of_getElem? (i := 584) (by decide +kernel)
theorem ml_L_66 : Cond.methodLink RL 66 yX11_fold ∈ lw_tbl := List.mem_of_getElem? (i := 585) (by decide +kernel)
theorem im_X11_fold : Cond.instanceMethod yX11_fold ∈ lw_tbl := List.mem_of_getElem? (i := 586) (by decide +kernel)
theorem se_X11_X11_fold : Cond.selects RX11 yX11_fold yX11_fold ∈ lw_tbl := List.mem_of_getElem? (i := 587) (by decide +kernel)
theorem cd_X11_fold : Cond.code yX11_fold cX11_fold 3 (Option.some FieldType.int) ∈ lw_tbl := List.mem_of_getElem? (i := 588) (by decide +kernel)
theorem ml_X11_184 : Cond.methodLink RX11 184 yX11_isPlace ∈ lw_tbl := List.mem_of_getElem? (i := 589) (by decide +kernel)
theorem pm_X11_isPlace : Cond.privateMethod yX11_isPlace ∈ lw_tbl := List.mem_of_getElem? (i := 590) (by decide +kernel)
theorem im_X11_isPlace : Cond.instanceMethod yX11_isPlace ∈ lw_tbl := List.mem_of_getElem? (i := 591) (by decide +kernel)
theorem cd_X11_isPlace : Cond.code yX11_isPlace cX11_isPlace 2 (Option.some FieldType.boolean) ∈ lw_tbl := List.mem_of_getElem? (i := 592) (by decide +kernel)
theorem ml_L_70 : Cond.methodLink RL 70 yX11_nail ∈ lw_tbl := List.mem_of_getElem? (i := 593) (by decide +kernel)
theorem im_X11_nail : Cond.instanceMethod yX11_nail ∈ lw_tbl := List.mem_of_getElem? (i := 594) (by decide +kernel)
theorem se_X11_X11_nail : Cond.selects RX11 yX11_nail yX11_nail ∈ lw_tbl := List.mem_of_getElem? (i := 595) (by decide +kernel)
theorem cd_X11_nail : Cond.code yX11_nail cX11_nail 2 (Option.some FieldType.int) ∈ lw_tbl := List.mem_of_getElem? (i := 596) (by decide +kernel)
theorem ml_L_74 : Cond.methodLink RL 74 yX11_place ∈ lw_tbl := List.mem_of_getElem? (i := 597) (by decide +kernel)
theorem im_X11_place : Cond.instanceMethod yX11_place ∈ lw_tbl := List.mem_of_getElem? (i := 598) (by decide +kernel)
theorem se_X11_X11_place : Cond.selects RX11 yX11_place yX11_place ∈ lw_tbl := List.mem_of_getElem? (i := 599) (by decide +kernel)
theorem cd_X11_place : Cond.code yX11_place cX11_place 3 (Option.some FieldType.int) ∈ lw_tbl := List.mem_of_getElem? (i := 600) (by decide +kernel)
theorem ml_L_78 : Cond.methodLink RL 78 yX11_seeker ∈ lw_tbl := List.mem_of_getElem? (i := 601) (by decide +kernel)
theorem im_X11_seeker : Cond.instanceMethod yX11_seeker ∈ lw_tbl := List.mem_of_getElem? (i := 602) (by decide +kernel)
theorem se_X11_X11_seeker : Cond.selects RX11 yX11_seeker yX11_seeker ∈ lw_tbl := List.mem_of_getElem? (i := 603) (by decide +kernel)
theorem cd_X11_seeker : Cond.code yX11_seeker cX11_seeker 4 (Option.some FieldType.int) ∈ lw_tbl := List.mem_of_getElem? (i := 604) (by decide +kernel)
theorem ml_X11_213 : Cond.methodLink RX11 213 yX7_feel ∈ lw_tbl := List.mem_of_getElem? (i := 605) (by decide +kernel)
theorem ml_L_82 : Cond.methodLink RL 82 yX11_likelihood ∈ lw_tbl := List.mem_of_getElem? (i := 606) (by decide +kernel)
theorem im_X11_likelihood : Cond.instanceMethod yX11_likelihood ∈ lw_tbl := List.mem_of_getElem? (i := 607) (by decide +kernel)
theorem se_X11_X11_likelihood : Cond.selects RX11 yX11_likelihood yX11_likelihood ∈ lw_tbl := List.mem_of_getElem? (i := 608) (by decide +kernel)
theorem cd_X11_likelihood : Cond.code yX11_likelihood cX11_likelihood 2 (Option.some FieldType.long) ∈ lw_tbl := List.mem_of_getElem? (i := 609) (by decide +kernel)
theorem ml_X11_216 : Cond.methodLink RX11 216 yX11_isPlaceOrNone ∈ lw_tbl := List.mem_of_getElem? (i := 610) (by decide +kernel)
theorem pm_X11_isPlaceOrNone : Cond.privateMethod yX11_isPlaceOrNone ∈ lw_tbl := List.mem_of_getElem? (i := 611) (by decide +kernel)
theorem im_X11_isPlaceOrNone : Cond.instanceMethod yX11_isPlaceOrNone ∈ lw_tbl := List.mem_of_getElem? (i := 612) (by decide +kernel)
theorem cd_X11_isPlaceOrNone : Cond.code yX11_isPlaceOrNone cX11_isPlaceOrNone 2 (Option.some FieldType.boolean) ∈ lw_tbl := List.mem_of_getElem? (i := 613) (by decide +kernel)
theorem kL_X11_219 : Cond.constantLong RX11 219 (-1000001) ∈ lw_tbl := List.mem_of_getElem? (i := 614) (by decide +kernel)
theorem ml_L_87 : Cond.methodLink RL 87 yX11_likely ∈ lw_tbl := List.mem_of_getElem? (i := 615) (by decide +kernel)
theorem im_X11_likely : Cond.instanceMethod yX11_likely ∈ lw_tbl := List.mem_of_getElem? (i := 616) (by decide +kernel)
theorem se_X11_X11_likely : Cond.selects RX11 yX11_likely yX11_likely ∈ lw_tbl := List.mem_of_getElem? (i := 617) (by decide +kernel)
theorem cd_X11_likely : Cond.code yX11_likely cX11_likely 3 (Option.some FieldType.long) ∈ lw_tbl := List.mem_of_getElem? (i := 618) (by decide +kernel)
theorem ml_X11_225 : Cond.methodLink RX11 225 yX11_lowest ∈ lw_tbl := List.mem_of_getElem? (i := 619) (by decide +kernel)
theorem st_X11_lowest : Cond.static yX11_lowest ∈ lw_tbl := List.mem_of_getElem? (i := 620) (by decide +kernel)
theorem cd_X11_lowest : Cond.code yX11_lowest cX11_lowest 7 (Option.some FieldType.long) ∈ lw_tbl := List.mem_of_getElem? (i := 621) (by decide +kernel)
theorem ml_X11_335 : Cond.methodLink RX11 335 yX11_greatestDivisor ∈ lw_tbl := List.mem_of_getElem? (i := 622) (by decide +kernel)
theorem st_X11_greatestDivisor : Cond.static yX11_greatestDivisor ∈ lw_tbl := List.mem_of_getElem? (i := 623) (by decide +kernel)
theorem cd_X11_greatestDivisor : Cond.code yX11_greatestDivisor cX11_greatestDivisor 7 (Option.some FieldType.long) ∈ lw_tbl := List.mem_of_getElem? (i := 624) (by decide +kernel)
theorem ml_L_92 : Cond.methodLink RL 92 yX11_felt ∈ lw_tbl := List.mem_of_getElem? (i := 625) (by decide +kernel)
theorem im_X11_felt : Cond.instanceMethod yX11_felt ∈ lw_tbl := List.mem_of_getElem? (i := 626) (by decide +kernel)
theorem se_X11_X11_felt : Cond.selects RX11 yX11_felt yX11_felt ∈ lw_tbl := List.mem_of_getElem? (i := 627) (by decide +kernel)
theorem cd_X11_felt : Cond.code yX11_felt cX11_felt 10 (Option.some FieldType.long) ∈ lw_tbl := List.mem_of_getElem? (i := 628) (by decide +kernel)
theorem kL_X11_229 : Cond.constantLong RX11 229 (10) ∈ lw_tbl := List.mem_of_getElem? (i := 629) (by decide +kernel)
theorem ml_L_96 : Cond.methodLink RL 96 yX11_surest ∈ lw_tbl := List.mem_of_getElem? (i := 630) (by decide +kernel)
theorem im_X11_surest : Cond.instanceMethod yX11_surest ∈ lw_tbl := List.mem_of_getElem? (i := 631) (by decide +kernel)
theorem se_X11_X11_surest : Cond.selects RX11 yX11_surest yX11_surest ∈ lw_tbl := List.mem_of_getElem? (i := 632) (by decide +kernel)
theorem cd_X11_surest : Cond.code yX11_surest cX11_surest 1 (Option.some FieldType.int) ∈ lw_tbl := List.mem_of_getElem? (i := 633) (by decide +kernel)
theorem kI_X11_231 : Cond.constant RX11 231 (-1000000) ∈ lw_tbl := List.mem_of_getElem? (i := 634) (by decide +kernel)
theorem ml_X11_232 : Cond.methodLink RX11 232 yX4_likeliestBut ∈ lw_tbl := List.mem_of_getElem? (i := 635) (by decide +kernel)
theorem ml_L_100 : Cond.methodLink RL 100 yX11_mean ∈ lw_tbl := List.mem_of_getElem? (i := 636) (by decide +kernel)
theorem im_X11_mean : Cond.instanceMethod yX11_mean ∈ lw_tbl := List.mem_of_getElem? (i := 637) (by decide +kernel)
theorem se_X11_X11_mean : Cond.selects RX11 yX11_mean yX11_mean ∈ lw_tbl := List.mem_of_getElem? (i := 638) (by decide +kernel)
theorem cd_X11_mean : Cond.code yX11_mean cX11_mean 7 (Option.some FieldType.long) ∈ lw_tbl := List.mem_of_getElem? (i := 639) (by decide +kernel)
theorem ml_X11_235 : Cond.methodLink RX11 235 yX11_isWay ∈ lw_tbl := List.mem_of_getElem? (i := 640) (by decide +kernel)
theorem st_X11_isWay : Cond.static yX11_isWay ∈ lw_tbl := List.mem_of_getElem? (i := 641) (by decide +kernel)
theorem cd_X11_isWay : Cond.code yX11_isWay cX11_isWay 1 (Option.some FieldType.boolean) ∈ lw_tbl := List.mem_of_getElem? (i := 642) (by decide +kernel)
theorem ml_X11_238 : Cond.methodLink RX11 238 yX4_secondsOfAll ∈ lw_tbl := List.mem_of_getElem? (i := 643) (by decide +kernel)
theorem im_X4_secondsOfAll : Cond.instanceMethod yX4_secondsOfAll ∈ lw_tbl := List.mem_of_getElem? (i := 644) (by decide +kernel)
theorem se_X4_X4_secondsOfAll : Cond.selects RX4 yX4_secondsOfAll yX4_secondsOfAll ∈ lw_tbl := List.mem_of_getElem? (i := 645) (by decide +kernel)
theorem cd_X4_secondsOfAll : Cond.code yX4_secondsOfAll cX4_secondsOfAll 9 (Option.some FieldType.long) ∈ lw_tbl := List.mem_of_getElem? (i := 646) (by decide +kernel)
theorem mn_X4_97 : Cond.methodLinkNest RX4 97 yX11_tens "TapeEnd" ∈ lw_tbl := List.mem_of_getElem? (i := 647) (by decide +kernel)
theorem st_X11_tens : Cond.static yX11_tens ∈ lw_tbl := List.mem_of_getElem? (i := 648) (by decide +kernel)
theorem cd_X11_tens : Cond.code yX11_tens cX11_tens 4 (Option.some FieldType.long) ∈ lw_tbl := List.mem_of_getElem? (i := 649) (by decide +kernel)
theorem ml_X4_101 : Cond.methodLink RX4 101 yX4_secondsTill ∈ lw_tbl := List.mem_of_getElem? (i := 650) (by decide +kernel)
theorem pm_X4_secondsTill : Cond.privateMethod yX4_secondsTill ∈ lw_tbl := List.mem_of_getElem? (i := 651) (by decide +kernel)
theorem im_X4_secondsTill : Cond.instanceMethod yX4_secondsTill ∈ lw_tbl := List.mem_of_getElem? (i := 652) (by decide +kernel)
theorem cd_X4_secondsTill : Cond.code yX4_secondsTill cX4_secondsTill 2 (Option.some FieldType.int) ∈ lw_tbl := List.mem_of_getElem? (i := 653) (by decide +kernel)
theorem ml_X4_104 : Cond.methodLink RX4 104 yX4_secondsIfAt ∈ lw_tbl := List.mem_of_getElem? (i := 654) (by decide +kernel)
theorem pm_X4_secondsIfAt : Cond.privateMethod yX4_secondsIfAt ∈ lw_tbl := List.mem_of_getElem? (i := 655) (by decide +kernel)
theorem im_X4_secondsIfAt : Cond.instanceMethod yX4_secondsIfAt ∈ lw_tbl := List.mem_of_getElem? (i := 656) (by decide +kernel)
theorem cd_X4_secondsIfAt : Cond.code yX4_secondsIfAt cX4_secondsIfAt 9 (Option.some FieldType.long) ∈ lw_tbl := List.mem_of_getElem? (i := 657) (by decide +kernel)
theorem ml_X11_242 : Cond.methodLink RX11 242 yX11_tens ∈ lw_tbl := List.mem_of_getElem? (i := 658) (by decide +kernel)
theorem ml_L_105 : Cond.methodLink RL 105 yX11_begin ∈ lw_tbl := List.mem_of_getElem? (i := 659) (by decide +kernel)
theorem im_X11_begin : Cond.instanceMethod yX11_begin ∈ lw_tbl := List.mem_of_getElem? (i := 660) (by decide +kernel)
theorem se_X11_X11_begin : Cond.selects RX11 yX11_begin yX11_begin ∈ lw_tbl := List.mem_of_getElem? (i := 661) (by decide +kernel)
theorem cd_X11_begin : Cond.code yX11_begin cX11_begin 10 (Option.some FieldType.int) ∈ lw_tbl := List.mem_of_getElem? (i := 662) (by decide +kernel)
theorem ml_L_109 : Cond.methodLink RL 109 yX11_noEnd ∈ lw_tbl := List.mem_of_getElem? (i := 663) (by decide +kernel)
theorem im_X11_noEnd : Cond.instanceMethod yX11_noEnd ∈ lw_tbl := List.mem_of_getElem? (i := 664) (by decide +kernel)
theorem se_X11_X11_noEnd : Cond.selects RX11 yX11_noEnd yX11_noEnd ∈ lw_tbl := List.mem_of_getElem? (i := 665) (by decide +kernel)
theorem cd_X11_noEnd : Cond.code yX11_noEnd cX11_noEnd 11 (Option.some FieldType.int) ∈ lw_tbl := List.mem_of_getElem? (i := 666) (by decide +kernel)
theorem kL_X11_246 : Cond.constantLong RX11 246 (100) ∈ lw_tbl := List.mem_of_getElem? (i := 667) (by decide +kernel)
theorem ml_L_113 : Cond.methodLink RL 113 yX11_width ∈ lw_tbl := List.mem_of_getElem? (i := 668) (by decide +kernel)
theorem im_X11_width : Cond.instanceMethod yX11_width ∈ lw_tbl := List.mem_of_getElem? (i := 669) (by decide +kernel)
theorem se_X11_X11_width : Cond.selects RX11 yX11_width yX11_width ∈ lw_tbl := List.mem_of_getElem? (i := 670) (by decide +kernel)
theorem cd_X11_width : Cond.code yX11_width cX11_width 5 (Option.some FieldType.int) ∈ lw_tbl := List.mem_of_getElem? (i := 671) (by decide +kernel)
theorem ml_X11_248 : Cond.methodLink RX11 248 yX11_isSplinter ∈ lw_tbl := List.mem_of_getElem? (i := 672) (by decide +kernel)
theorem st_X11_isSplinter : Cond.static yX11_isSplinter ∈ lw_tbl := List.mem_of_getElem? (i := 673) (by decide +kernel)
theorem cd_X11_isSplinter : Cond.code yX11_isSplinter cX11_isSplinter 3 (Option.some FieldType.boolean) ∈ lw_tbl := List.mem_of_getElem? (i := 674) (by decide +kernel)
theorem ml_X11_251 : Cond.methodLink RX11 251 yX11_widthBehind ∈ lw_tbl := List.mem_of_getElem? (i := 675) (by decide +kernel)
theorem st_X11_widthBehind : Cond.static yX11_widthBehind ∈ lw_tbl := List.mem_of_getElem? (i := 676) (by decide +kernel)
theorem cd_X11_widthBehind : Cond.code yX11_widthBehind cX11_widthBehind 4 (Option.some FieldType.int) ∈ lw_tbl := List.mem_of_getElem? (i := 677) (by decide +kernel)
theorem ml_X11_323 : Cond.methodLink RX11 323 yJ9_max_7cf53 ∈ lw_tbl := List.mem_of_getElem? (i := 678) (by decide +kernel)
theorem ml_X11_328 : Cond.methodLink RX11 328 yJ9_min_7cf53 ∈ lw_tbl := List.mem_of_getElem? (i := 679) (by decide +kernel)
theorem ml_L_118 : Cond.methodLink RL 118 yX11_lost ∈ lw_tbl := List.mem_of_getElem? (i := 680) (by decide +kernel)
theorem im_X11_lost : Cond.instanceMethod yX11_lost ∈ lw_tbl := List.mem_of_getElem? (i := 681) (by decide +kernel)
theorem se_X11_X11_lost : Cond.selects RX11 yX11_lost yX11_lost ∈ lw_tbl := List.mem_of_getElem? (i := 682) (by decide +kernel)
theorem cd_X11_lost : Cond.code yX11_lost cX11_lost 7 (Option.some FieldType.int) ∈ lw_tbl := List.mem_of_getElem? (i := 683) (by decide +kernel)
theorem ml_L_122 : Cond.methodLink RL 122 yX11_pays ∈ lw_tbl := List.mem_of_getElem? (i := 684) (by decide +kernel)
theorem im_X11_pays : Cond.instanceMethod yX11_pays ∈ lw_tbl := List.mem_of_getElem? (i := 685) (by decide +kernel)
theorem se_X11_X11_pays : Cond.selects RX11 yX11_pays yX11_pays ∈ lw_tbl := List.mem_of_getElem? (i := 686) (by decide +kernel)
theorem cd_X11_pays : Cond.code yX11_pays cX11_pays 9 (Option.some FieldType.int) ∈ lw_tbl := List.mem_of_getElem? (i := 687) (by decide +kernel)
theorem ml_L_126 : Cond.methodLink RL 126 yX11_whose ∈ lw_tbl := List.mem_of_getElem? (i := 688) (by decide +kernel)
theorem im_X11_whose : Cond.instanceMethod yX11_whose ∈ lw_tbl := List.mem_of_getElem? (i := 689) (by decide +kernel)
theorem se_X11_X11_whose : Cond.selects RX11 yX11_whose yX11_whose ∈ lw_tbl := List.mem_of_getElem? (i := 690) (by decide +kernel)
theorem cd_X11_whose : Cond.code yX11_whose cX11_whose 7 (Option.some FieldType.int) ∈ lw_tbl := List.mem_of_getElem? (i := 691) (by decide +kernel)
theorem ml_X11_255 : Cond.methodLink RX11 255 yX6_areUpTo ∈ lw_tbl := List.mem_of_getElem? (i := 692) (by decide +kernel)
theorem im_X6_areUpTo : Cond.instanceMethod yX6_areUpTo ∈ lw_tbl := List.mem_of_getElem? (i := 693) (by decide +kernel)
theorem se_X6_X6_areUpTo : Cond.selects RX6 yX6_areUpTo yX6_areUpTo ∈ lw_tbl := List.mem_of_getElem? (i := 694) (by decide +kernel)
theorem cd_X6_areUpTo : Cond.code yX6_areUpTo cX6_areUpTo 5 (Option.some FieldType.boolean) ∈ lw_tbl := List.mem_of_getElem? (i := 695) (by decide +kernel)
theorem mn_X6_26 : Cond.methodLinkNest RX6 26 yX11_within "TapeEnd" ∈ lw_tbl := List.mem_of_getElem? (i := 696) (by decide +kernel)
theorem ml_X11_261 : Cond.methodLink RX11 261 yX11_goesSo ∈ lw_tbl := List.mem_of_getElem? (i := 697) (by decide +kernel)
theorem pm_X11_goesSo : Cond.privateMethod yX11_goesSo ∈ lw_tbl := List.mem_of_getElem? (i := 698) (by decide +kernel)
theorem im_X11_goesSo : Cond.instanceMethod yX11_goesSo ∈ lw_tbl := List.mem_of_getElem? (i := 699) (by decide +kernel)
theorem cd_X11_goesSo : Cond.code yX11_goesSo cX11_goesSo 7 (Option.some FieldType.boolean) ∈ lw_tbl := List.mem_of_getElem? (i := 700) (by decide +kernel)
theorem ml_L_130 : Cond.methodLink RL 130 yX11_rule ∈ lw_tbl := List.mem_of_getElem? (i := 701) (by decide +kernel)
theorem im_X11_rule : Cond.instanceMethod yX11_rule ∈ lw_tbl := List.mem_of_getElem? (i := 702) (by decide +kernel)
theorem se_X11_X11_rule : Cond.selects RX11 yX11_rule yX11_rule ∈ lw_tbl := List.mem_of_getElem? (i := 703) (by decide +kernel)
theorem cd_X11_rule : Cond.code yX11_rule cX11_rule 10 (Option.some FieldType.long) ∈ lw_tbl := List.mem_of_getElem? (i := 704) (by decide +kernel)
theorem ml_X11_268 : Cond.methodLink RX11 268 yX11_walkByWords ∈ lw_tbl := List.mem_of_getElem? (i := 705) (by decide +kernel)
theorem pm_X11_walkByWords : Cond.privateMethod yX11_walkByWords ∈ lw_tbl := List.mem_of_getElem? (i := 706) (by decide +kernel)
theorem im_X11_walkByWords : Cond.instanceMethod yX11_walkByWords ∈ lw_tbl := List.mem_of_getElem? (i := 707) (by decide +kernel)
theorem cd_X11_walkByWords : Cond.code yX11_walkByWords cX11_walkByWords 7 none ∈ lw_tbl := List.mem_of_getElem? (i := 708) (by decide +kernel)
theorem ml_X11_317 : Cond.methodLink RX11 317 yX4_follow ∈ lw_tbl := List.mem_of_getElem? (i := 709) (by decide +kernel)
theorem im_X4_follow : Cond.instanceMethod yX4_follow ∈ lw_tbl := List.mem_of_getElem? (i := 710) (by decide +kernel)
theorem se_X4_X4_follow : Cond.selects RX4 yX4_follow yX4_follow ∈ lw_tbl := List.mem_of_getElem? (i := 711) (by decide +kernel)
theorem cd_X4_follow : Cond.code yX4_follow cX4_follow 2 none ∈ lw_tbl := List.mem_of_getElem? (i := 712) (by decide +kernel)
theorem ml_X4_88 : Cond.methodLink RX4 88 yX4_advance ∈ lw_tbl := List.mem_of_getElem? (i := 713) (by decide +kernel)
theorem ml_X4_92 : Cond.methodLink RX4 92 yX4_turn ∈ lw_tbl := List.mem_of_getElem? (i := 714) (by decide +kernel)
theorem ml_X11_320 : Cond.methodLink RX11 320 yX4_weigh ∈ lw_tbl := List.mem_of_getElem? (i := 715) (by decide +kernel)
theorem ml_L_134 : Cond.methodLink RL 134 yX11_search ∈ lw_tbl := List.mem_of_getElem? (i := 716) (by decide +kernel)
theorem im_X11_search : Cond.instanceMethod yX11_search ∈ lw_tbl := List.mem_of_getElem? (i := 717) (by decide +kernel)
theorem se_X11_X11_search : Cond.selects RX11 yX11_search yX11_search ∈ lw_tbl := List.mem_of_getElem? (i := 718) (by decide +kernel)
theorem cd_X11_search : Cond.code yX11_search cX11_search 12 (Option.some FieldType.int) ∈ lw_tbl := List.mem_of_getElem? (i := 719) (by decide +kernel)
theorem kI_X11_272 : Cond.constant RX11 272 (999999) ∈ lw_tbl := List.mem_of_getElem? (i := 720) (by decide +kernel)
theorem ml_X11_273 : Cond.methodLink RX11 273 yX11_nextDraw ∈ lw_tbl := List.mem_of_getElem? (i := 721) (by decide +kernel)
theorem st_X11_nextDraw : Cond.static yX11_nextDraw ∈ lw_tbl := List.mem_of_getElem? (i := 722) (by decide +kernel)
theorem cd_X11_nextDraw : Cond.code yX11_nextDraw cX11_nextDraw 2 (Option.some FieldType.long) ∈ lw_tbl := List.mem_of_getElem? (i := 723) (by decide +kernel)
theorem kL_X11_331 : Cond.constantLong RX11 331 (16807) ∈ lw_tbl := List.mem_of_getElem? (i := 724) (by decide +kernel)
theorem kL_X11_333 : Cond.constantLong RX11 333 (2147483647) ∈ lw_tbl := List.mem_of_getElem? (i := 725) (by decide +kernel)
theorem ml_X11_277 : Cond.methodLink RX11 277 yX2_placeOfDraw ∈ lw_tbl := List.mem_of_getElem? (i := 726) (by decide +kernel)
theorem im_X2_placeOfDraw : Cond.instanceMethod yX2_placeOfDraw ∈ lw_tbl := List.mem_of_getElem? (i := 727) (by decide +kernel)
theorem se_X2_X2_placeOfDraw : Cond.selects RX2 yX2_placeOfDraw yX2_placeOfDraw ∈ lw_tbl := List.mem_of_getElem? (i := 728) (by decide +kernel)
theorem cd_X2_placeOfDraw : Cond.code yX2_placeOfDraw cX2_placeOfDraw 7 (Option.some FieldType.int) ∈ lw_tbl := List.mem_of_getElem? (i := 729) (by decide +kernel)
theorem ml_X11_281 : Cond.methodLink RX11 281 yX2_around ∈ lw_tbl := List.mem_of_getElem? (i := 730) (by decide +kernel)
theorem ml_L_138 : Cond.methodLink RL 138 yX11_image ∈ lw_tbl := List.mem_of_getElem? (i := 731) (by decide +kernel)
theorem im_X11_image : Cond.instanceMethod yX11_image ∈ lw_tbl := List.mem_of_getElem? (i := 732) (by decide +kernel)
theorem se_X11_X11_image : Cond.selects RX11 yX11_image yX11_image ∈ lw_tbl := List.mem_of_getElem? (i := 733) (by decide +kernel)
theorem cd_X11_image : Cond.code yX11_image cX11_image 2 (Option.some FieldType.int) ∈ lw_tbl := List.mem_of_getElem? (i := 734) (by decide +kernel)
theorem ml_L_142 : Cond.methodLink RL 142 yX11_restore ∈ lw_tbl := List.mem_of_getElem? (i := 735) (by decide +kernel)
theorem im_X11_restore : Cond.instanceMethod yX11_restore ∈ lw_tbl := List.mem_of_getElem? (i := 736) (by decide +kernel)
theorem se_X11_X11_restore : Cond.selects RX11 yX11_restore yX11_restore ∈ lw_tbl := List.mem_of_getElem? (i := 737) (by decide +kernel)
theorem cd_X11_restore : Cond.code yX11_restore cX11_restore 2 (Option.some FieldType.int) ∈ lw_tbl := List.mem_of_getElem? (i := 738) (by decide +kernel)
theorem ml_L_146 : Cond.methodLink RL 146 yX11_kind ∈ lw_tbl := List.mem_of_getElem? (i := 739) (by decide +kernel)
theorem im_X11_kind : Cond.instanceMethod yX11_kind ∈ lw_tbl := List.mem_of_getElem? (i := 740) (by decide +kernel)
theorem se_X11_X11_kind : Cond.selects RX11 yX11_kind yX11_kind ∈ lw_tbl := List.mem_of_getElem? (i := 741) (by decide +kernel)
theorem cd_X11_kind : Cond.code yX11_kind cX11_kind 3 (Option.some FieldType.int) ∈ lw_tbl := List.mem_of_getElem? (i := 742) (by decide +kernel)
theorem ml_X11_284 : Cond.methodLink RX11 284 yX7_kindTold ∈ lw_tbl := List.mem_of_getElem? (i := 743) (by decide +kernel)
theorem de_X7_kindTold : Cond.declares yX7_kindTold ∈ lw_tbl := List.mem_of_getElem? (i := 744) (by decide +kernel)
theorem sm_X7_kindTold_X7 : Cond.sameMethod "TapeEnd$Seeker" "TapeEnd$Seeker" "kindTold" "()I" ∈ lw_tbl := List.mem_of_getElem? (i := 745) (by decide +kernel)
theorem se_X0_X7_kindTold_X0_kindTold : Cond.selects RX0 yX7_kindTold yX0_kindTold ∈ lw_tbl := List.mem_of_getElem? (i := 746) (by decide +kernel)
theorem im_X0_kindTold : Cond.instanceMethod yX0_kindTold ∈ lw_tbl := List.mem_of_getElem? (i := 747) (by decide +kernel)
theorem cd_X0_kindTold : Cond.code yX0_kindTold cX0_kindTold 1 (Option.some FieldType.int) ∈ lw_tbl := List.mem_of_getElem? (i := 748) (by decide +kernel)
theorem se_X1_X7_kindTold_X1_kindTold : Cond.selects RX1 yX7_kindTold yX1_kindTold ∈ lw_tbl := List.mem_of_getElem? (i := 749) (by decide +kernel)
theorem im_X1_kindTold : Cond.instanceMethod yX1_kindTold ∈ lw_tbl := List.mem_of_getElem? (i := 750) (by decide +kernel)
theorem cd_X1_kindTold : Cond.code yX1_kindTold cX1_kindTold 1 (Option.some FieldType.int) ∈ lw_tbl := List.mem_of_getElem? (i := 751) (by decide +kernel)
theorem se_X3_X7_kindTold_X3_kindTold : Cond.selects RX3 yX7_kindTold yX3_kindTold ∈ lw_tbl := List.mem_of_getElem? (i := 752) (by decide +kernel)
theorem im_X3_kindTold : Cond.instanceMethod yX3_kindTold ∈ lw_tbl := List.mem_of_getElem? (i := 753) (by decide +kernel)
theorem cd_X3_kindTold : Cond.code yX3_kindTold cX3_kindTold 1 (Option.some FieldType.int) ∈ lw_tbl := List.mem_of_getElem? (i := 754) (by decide +kernel)
theorem se_X5_X7_kindTold_X5_kindTold : Cond.selects RX5 yX7_kindTold yX5_kindTold ∈ lw_tbl := List.mem_of_getElem? (i := 755) (by decide +kernel)
theorem im_X5_kindTold : Cond.instanceMethod yX5_kindTold ∈ lw_tbl := List.mem_of_getElem? (i := 756) (by decide +kernel)
theorem cd_X5_kindTold : Cond.code yX5_kindTold cX5_kindTold 1 (Option.some FieldType.int) ∈ lw_tbl := List.mem_of_getElem? (i := 757) (by decide +kernel)
theorem se_X8_X7_kindTold_X8_kindTold : Cond.selects RX8 yX7_kindTold yX8_kindTold ∈ lw_tbl := List.mem_of_getElem? (i := 758) (by decide +kernel)
theorem im_X8_kindTold : Cond.instanceMethod yX8_kindTold ∈ lw_tbl := List.mem_of_getElem? (i := 759) (by decide +kernel)
theorem cd_X8_kindTold : Cond.code yX8_kindTold cX8_kindTold 1 (Option.some FieldType.int) ∈ lw_tbl := List.mem_of_getElem? (i := 760) (by decide +kernel)
theorem ml_L_150 : Cond.methodLink RL 150 yX11_as ∈ lw_tbl := List.mem_of_getElem? (i := 761) (by decide +kernel)
theorem im_X11_as : Cond.instanceMethod yX11_as ∈ lw_tbl := List.mem_of_getElem? (i := 762) (by decide +kernel)
theorem se_X11_X11_as : Cond.selects RX11 yX11_as yX11_as ∈ lw_tbl := List.mem_of_getElem? (i := 763) (by decide +kernel)
theorem cd_X11_as : Cond.code yX11_as cX11_as 4 (Option.some FieldType.int) ∈ lw_tbl := List.mem_of_getElem? (i := 764) (by decide +kernel)
theorem ml_X11_288 : Cond.methodLink RX11 288 yX11_isOfKind ∈ lw_tbl := List.mem_of_getElem? (i := 765) (by decide +kernel)
theorem st_X11_isOfKind : Cond.static yX11_isOfKind ∈ lw_tbl := List.mem_of_getElem? (i := 766) (by decide +kernel)
theorem cd_X11_isOfKind : Cond.code yX11_isOfKind cX11_isOfKind 2 (Option.some FieldType.boolean) ∈ lw_tbl := List.mem_of_getElem? (i := 767) (by decide +kernel)
theorem cl_X11_339 : Cond.classLink RX11 339 RX5 ∈ lw_tbl := List.mem_of_getElem? (i := 768) (by decide +kernel)
theorem cl_X11_341 : Cond.classLink RX11 341 RX0 ∈ lw_tbl := List.mem_of_getElem? (i := 769) (by decide +kernel)
theorem cl_X11_343 : Cond.classLink RX11 343 RX1 ∈ lw_tbl := List.mem_of_getElem? (i := 770) (by decide +kernel)
theorem cl_X11_345 : Cond.classLink RX11 345 RX3 ∈ lw_tbl := List.mem_of_getElem? (i := 771) (by decide +kernel)
theorem cl_X11_347 : Cond.classLink RX11 347 RX8 ∈ lw_tbl := List.mem_of_getElem? (i := 772) (by decide +kernel)
theorem ml_L_154 : Cond.methodLink RL 154 yX11_ask ∈ lw_tbl := List.mem_of_getElem? (i := 773) (by decide +kernel)
theorem im_X11_ask : Cond.instanceMethod yX11_ask ∈ lw_tbl := List.mem_of_getElem? (i := 774) (by decide +kernel)
theorem se_X11_X11_ask : Cond.selects RX11 yX11_ask yX11_ask ∈ lw_tbl := List.mem_of_getElem? (i := 775) (by decide +kernel)
theorem cd_X11_ask : Cond.code yX11_ask cX11_ask 4 (Option.some FieldType.int) ∈ lw_tbl := List.mem_of_getElem? (i := 776) (by decide +kernel)
theorem ml_X11_296 : Cond.methodLink RX11 296 yX7_askSize ∈ lw_tbl := List.mem_of_getElem? (i := 777) (by decide +kernel)
theorem im_X7_askSize : Cond.instanceMethod yX7_askSize ∈ lw_tbl := List.mem_of_getElem? (i := 778) (by decide +kernel)
theorem sm_X7_askSize_X7 : Cond.sameMethod "TapeEnd$Seeker" "TapeEnd$Seeker" "askSize" "(LTapeEnd$Trace;)I" ∈ lw_tbl := List.mem_of_getElem? (i := 779) (by decide +kernel)
theorem se_X0_X7_askSize_X0_askSize : Cond.selects RX0 yX7_askSize yX0_askSize ∈ lw_tbl := List.mem_of_getElem? (i := 780) (by decide +kernel)
theorem im_X0_askSize : Cond.instanceMethod yX0_askSize ∈ lw_tbl := List.mem_of_getElem? (i := 781) (by decide +kernel)
theorem cd_X0_askSize : Cond.code yX0_askSize cX0_askSize 2 (Option.some FieldType.int) ∈ lw_tbl := List.mem_of_getElem? (i := 782) (by decide +kernel)
theorem ml_X0_33 : Cond.methodLink RX0 33 yX10_leave ∈ lw_tbl := List.mem_of_getElem? (i := 783) (by decide +kernel)
theorem im_X10_leave : Cond.instanceMethod yX10_leave ∈ lw_tbl := List.mem_of_getElem? (i := 784) (by decide +kernel)
theorem se_X10_X10_leave : Cond.selects RX10 yX10_leave yX10_leave ∈ lw_tbl := List.mem_of_getElem? (i := 785) (by decide +kernel)
theorem cd_X10_leave : Cond.code yX10_leave cX10_leave 2 none ∈ lw_tbl := List.mem_of_getElem? (i := 786) (by decide +kernel)
theorem ml_X0_39 : Cond.methodLink RX0 39 yX5_askSize ∈ lw_tbl := List.mem_of_getElem? (i := 787) (by decide +kernel)
theorem im_X5_askSize : Cond.instanceMethod yX5_askSize ∈ lw_tbl := List.mem_of_getElem? (i := 788) (by decide +kernel)
theorem cd_X5_askSize : Cond.code yX5_askSize cX5_askSize 3 (Option.some FieldType.int) ∈ lw_tbl := List.mem_of_getElem? (i := 789) (by decide +kernel)
theorem ml_X5_26 : Cond.methodLink RX5 26 yX10_leave ∈ lw_tbl := List.mem_of_getElem? (i := 790) (by decide +kernel)
theorem ml_X5_32 : Cond.methodLink RX5 32 yX7_askSize ∈ lw_tbl := List.mem_of_getElem? (i := 791) (by decide +kernel)
theorem ml_X5_36 : Cond.methodLink RX5 36 yX5_askMark ∈ lw_tbl := List.mem_of_getElem? (i := 792) (by decide +kernel)
theorem im_X5_askMark : Cond.instanceMethod yX5_askMark ∈ lw_tbl := List.mem_of_getElem? (i := 793) (by decide +kernel)
theorem se_X5_X5_askMark : Cond.selects RX5 yX5_askMark yX5_askMark ∈ lw_tbl := List.mem_of_getElem? (i := 794) (by decide +kernel)
theorem sm_X5_askMark_X5 : Cond.sameMethod "TapeEnd$Round" "TapeEnd$Round" "askMark" "(LTapeEnd$Trace;)I" ∈ lw_tbl := List.mem_of_getElem? (i := 795) (by decide +kernel)
theorem se_X0_X5_askMark_X0_askMark : Cond.selects RX0 yX5_askMark yX0_askMark ∈ lw_tbl := List.mem_of_getElem? (i := 796) (by decide +kernel)
theorem im_X0_askMark : Cond.instanceMethod yX0_askMark ∈ lw_tbl := List.mem_of_getElem? (i := 797) (by decide +kernel)
theorem cd_X0_askMark : Cond.code yX0_askMark cX0_askMark 2 (Option.some FieldType.int) ∈ lw_tbl := List.mem_of_getElem? (i := 798) (by decide +kernel)
theorem ml_X0_43 : Cond.methodLink RX0 43 yX5_askMark ∈ lw_tbl := List.mem_of_getElem? (i := 799) (by decide +kernel)
theorem se_X1_X5_askMark_X1_askMark : Cond.selects RX1 yX5_askMark yX1_askMark ∈ lw_tbl := List.mem_of_getElem? (i := 800) (by decide +kernel)
theorem im_X1_askMark : Cond.instanceMethod yX1_askMark ∈ lw_tbl := List.mem_of_getElem? (i := 801) (by decide +kernel)
theorem cd_X1_askMark : Cond.code yX1_askMark cX1_askMark 2 (Option.some FieldType.int) ∈ lw_tbl := List.mem_of_getElem? (i := 802) (by decide +kernel)
theorem ml_X1_22 : Cond.methodLink RX1 22 yX10_leave ∈ lw_tbl := List.mem_of_getElem? (i := 803) (by decide +kernel)
theorem ml_X1_28 : Cond.methodLink RX1 28 yX5_askMark ∈ lw_tbl := List.mem_of_getElem? (i := 804) (by decide +kernel)
theorem cd_X5_askMark : Cond.code yX5_askMark cX5_askMark 2 (Option.some FieldType.int) ∈ lw_tbl := List.mem_of_getElem? (i := 805) (by decide +kernel)
theorem ml_X5_41 : Cond.methodLink RX5 41 yX7_askMark ∈ lw_tbl := List.mem_of_getElem? (i := 806) (by decide +kernel)
theorem im_X7_askMark : Cond.instanceMethod yX7_askMark ∈ lw_tbl := List.mem_of_getElem? (i := 807) (by decide +kernel)
theorem cd_X7_askMark : Cond.code yX7_askMark cX7_askMark 2 (Option.some FieldType.int) ∈ lw_tbl := List.mem_of_getElem? (i := 808) (by decide +kernel)
theorem ml_X7_19 : Cond.methodLink RX7 19 yX10_leave ∈ lw_tbl := List.mem_of_getElem? (i := 809) (by decide +kernel)
theorem se_X1_X7_askSize_X5_askSize : Cond.selects RX1 yX7_askSize yX5_askSize ∈ lw_tbl := List.mem_of_getElem? (i := 810) (by decide +kernel)
theorem se_X3_X7_askSize_X3_askSize : Cond.selects RX3 yX7_askSize yX3_askSize ∈ lw_tbl := List.mem_of_getElem? (i := 811) (by decide +kernel)
theorem im_X3_askSize : Cond.instanceMethod yX3_askSize ∈ lw_tbl := List.mem_of_getElem? (i := 812) (by decide +kernel)
theorem cd_X3_askSize : Cond.code yX3_askSize cX3_askSize 2 (Option.some FieldType.int) ∈ lw_tbl := List.mem_of_getElem? (i := 813) (by decide +kernel)
theorem ml_X3_17 : Cond.methodLink RX3 17 yX10_leave ∈ lw_tbl := List.mem_of_getElem? (i := 814) (by decide +kernel)
theorem ml_X3_23 : Cond.methodLink RX3 23 yX7_askSize ∈ lw_tbl := List.mem_of_getElem? (i := 815) (by decide +kernel)
theorem se_X5_X7_askSize_X5_askSize : Cond.selects RX5 yX7_askSize yX5_askSize ∈ lw_tbl := List.mem_of_getElem? (i := 816) (by decide +kernel)
theorem se_X8_X7_askSize_X8_askSize : Cond.selects RX8 yX7_askSize yX8_askSize ∈ lw_tbl := List.mem_of_getElem? (i := 817) (by decide +kernel)
theorem im_X8_askSize : Cond.instanceMethod yX8_askSize ∈ lw_tbl := List.mem_of_getElem? (i := 818) (by decide +kernel)
theorem cd_X8_askSize : Cond.code yX8_askSize cX8_askSize 2 (Option.some FieldType.int) ∈ lw_tbl := List.mem_of_getElem? (i := 819) (by decide +kernel)
theorem ml_X8_23 : Cond.methodLink RX8 23 yX10_leave ∈ lw_tbl := List.mem_of_getElem? (i := 820) (by decide +kernel)
theorem ml_X8_29 : Cond.methodLink RX8 29 yX3_askSize ∈ lw_tbl := List.mem_of_getElem? (i := 821) (by decide +kernel)
theorem cd_X7_askSize : Cond.code yX7_askSize cX7_askSize 2 (Option.some FieldType.int) ∈ lw_tbl := List.mem_of_getElem? (i := 822) (by decide +kernel)
theorem ml_X11_300 : Cond.methodLink RX11 300 yX7_askMark ∈ lw_tbl := List.mem_of_getElem? (i := 823) (by decide +kernel)
theorem im_X3_askMark : Cond.instanceMethod yX3_askMark ∈ lw_tbl := List.mem_of_getElem? (i := 824) (by decide +kernel)
theorem cd_X3_askMark : Cond.code yX3_askMark cX3_askMark 3 (Option.some FieldType.int) ∈ lw_tbl := List.mem_of_getElem? (i := 825) (by decide +kernel)
theorem ml_X3_27 : Cond.methodLink RX3 27 yX7_askMark ∈ lw_tbl := List.mem_of_getElem? (i := 826) (by decide +kernel)
theorem ml_X3_30 : Cond.methodLink RX3 30 yX3_askSize ∈ lw_tbl := List.mem_of_getElem? (i := 827) (by decide +kernel)
theorem ml_L_158 : Cond.methodLink RL 158 yX11_trace ∈ lw_tbl := List.mem_of_getElem? (i := 828) (by decide +kernel)
theorem im_X11_trace : Cond.instanceMethod yX11_trace ∈ lw_tbl := List.mem_of_getElem? (i := 829) (by decide +kernel)
theorem se_X11_X11_trace : Cond.selects RX11 yX11_trace yX11_trace ∈ lw_tbl := List.mem_of_getElem? (i := 830) (by decide +kernel)
theorem cd_X11_trace : Cond.code yX11_trace cX11_trace 2 (Option.some FieldType.int) ∈ lw_tbl := List.mem_of_getElem? (i := 831) (by decide +kernel)
theorem ml_L_162 : Cond.methodLink RL 162 yX11_count ∈ lw_tbl := List.mem_of_getElem? (i := 832) (by decide +kernel)
theorem im_X11_count : Cond.instanceMethod yX11_count ∈ lw_tbl := List.mem_of_getElem? (i := 833) (by decide +kernel)
theorem se_X11_X11_count : Cond.selects RX11 yX11_count yX11_count ∈ lw_tbl := List.mem_of_getElem? (i := 834) (by decide +kernel)
theorem cd_X11_count : Cond.code yX11_count cX11_count 2 (Option.some FieldType.int) ∈ lw_tbl := List.mem_of_getElem? (i := 835) (by decide +kernel)
theorem ml_X11_306 : Cond.methodLink RX11 306 yX11_rowsThere ∈ lw_tbl := List.mem_of_getElem? (i := 836) (by decide +kernel)
theorem pm_X11_rowsThere : Cond.privateMethod yX11_rowsThere ∈ lw_tbl := List.mem_of_getElem? (i := 837) (by decide +kernel)
theorem im_X11_rowsThere : Cond.instanceMethod yX11_rowsThere ∈ lw_tbl := List.mem_of_getElem? (i := 838) (by decide +kernel)
theorem cd_X11_rowsThere : Cond.code yX11_rowsThere cX11_rowsThere 3 (Option.some FieldType.int) ∈ lw_tbl := List.mem_of_getElem? (i := 839) (by decide +kernel)
theorem ml_L_166 : Cond.methodLink RL 166 yX11_status ∈ lw_tbl := List.mem_of_getElem? (i := 840) (by decide +kernel)
theorem im_X11_status : Cond.instanceMethod yX11_status ∈ lw_tbl := List.mem_of_getElem? (i := 841) (by decide +kernel)
theorem se_X11_X11_status : Cond.selects RX11 yX11_status yX11_status ∈ lw_tbl := List.mem_of_getElem? (i := 842) (by decide +kernel)
theorem cd_X11_status : Cond.code yX11_status cX11_status 1 (Option.some FieldType.int) ∈ lw_tbl := List.mem_of_getElem? (i := 843) (by decide +kernel)
theorem cl_L_10 : Cond.classLink RL 10 RX12 ∈ lw_tbl := List.mem_of_getElem? (i := 844) (by decide +kernel)
theorem ib_X12 : Cond.instantiable RX12 26 ∈ lw_tbl := List.mem_of_getElem? (i := 845) (by decide +kernel)
theorem ml_L_12 : Cond.methodLink RL 12 yX12_init ∈ lw_tbl := List.mem_of_getElem? (i := 846) (by decide +kernel)
theorem im_X12_init : Cond.instanceMethod yX12_init ∈ lw_tbl := List.mem_of_getElem? (i := 847) (by decide +kernel)
theorem cd_X12_init : Cond.code yX12_init cX12_init 1 none ∈ lw_tbl := List.mem_of_getElem? (i := 848) (by decide +kernel)
theorem ml_X12_1 : Cond.methodLink RX12 1 ⟨"java/lang/Object", "<init>", "()V"⟩ ∈ lw_tbl := List.mem_of_getElem? (i := 849) (by decide +kernel)
theorem fl_X12_54 : Cond.fieldLink RX12 54 "TapeEndModel" "thrown" "I" ∈ lw_tbl := List.mem_of_getElem? (i := 850) (by decide +kernel)
theorem fl_X12_58 : Cond.fieldLink RX12 58 "TapeEndModel" "status" "I" ∈ lw_tbl := List.mem_of_getElem? (i := 851) (by decide +kernel)
theorem fl_X12_7 : Cond.fieldLink RX12 7 "TapeEndModel" "lane" "[I" ∈ lw_tbl := List.mem_of_getElem? (i := 852) (by decide +kernel)
theorem fl_X12_13 : Cond.fieldLink RX12 13 "TapeEndModel" "many" "[I" ∈ lw_tbl := List.mem_of_getElem? (i := 853) (by decide +kernel)
theorem fl_X12_16 : Cond.fieldLink RX12 16 "TapeEndModel" "item" "[I" ∈ lw_tbl := List.mem_of_getElem? (i := 854) (by decide +kernel)
theorem fl_X12_19 : Cond.fieldLink RX12 19 "TapeEndModel" "roll" "[I" ∈ lw_tbl := List.mem_of_getElem? (i := 855) (by decide +kernel)
theorem fl_X12_22 : Cond.fieldLink RX12 22 "TapeEndModel" "fresh" "[I" ∈ lw_tbl := List.mem_of_getElem? (i := 856) (by decide +kernel)
theorem fl_X12_25 : Cond.fieldLink RX12 25 "TapeEndModel" "like" "[J" ∈ lw_tbl := List.mem_of_getElem? (i := 857) (by decide +kernel)
theorem fl_X12_29 : Cond.fieldLink RX12 29 "TapeEndModel" "was" "[I" ∈ lw_tbl := List.mem_of_getElem? (i := 858) (by decide +kernel)
theorem fl_X12_32 : Cond.fieldLink RX12 32 "TapeEndModel" "liked" "[J" ∈ lw_tbl := List.mem_of_getElem? (i := 859) (by decide +kernel)
theorem fl_X12_156 : Cond.fieldLink RX12 156 "TapeEndModel" "acts" "I" ∈ lw_tbl := List.mem_of_getElem? (i := 860) (by decide +kernel)
theorem fl_X12_35 : Cond.fieldLink RX12 35 "TapeEndModel" "tape" "[I" ∈ lw_tbl := List.mem_of_getElem? (i := 861) (by decide +kernel)
theorem fl_X12_81 : Cond.fieldLink RX12 81 "TapeEndModel" "taped" "I" ∈ lw_tbl := List.mem_of_getElem? (i := 862) (by decide +kernel)
theorem fl_X12_94 : Cond.fieldLink RX12 94 "TapeEndModel" "cursor" "I" ∈ lw_tbl := List.mem_of_getElem? (i := 863) (by decide +kernel)
theorem fl_X12_88 : Cond.fieldLink RX12 88 "TapeEndModel" "start" "I" ∈ lw_tbl := List.mem_of_getElem? (i := 864) (by decide +kernel)
theorem fl_X12_109 : Cond.fieldLink RX12 109 "TapeEndModel" "token" "I" ∈ lw_tbl := List.mem_of_getElem? (i := 865) (by decide +kernel)
theorem fl_X12_98 : Cond.fieldLink RX12 98 "TapeEndModel" "value" "I" ∈ lw_tbl := List.mem_of_getElem? (i := 866) (by decide +kernel)
theorem fl_X12_85 : Cond.fieldLink RX12 85 "TapeEndModel" "fault" "I" ∈ lw_tbl := List.mem_of_getElem? (i := 867) (by decide +kernel)
theorem fl_X12_91 : Cond.fieldLink RX12 91 "TapeEndModel" "faultAt" "I" ∈ lw_tbl := List.mem_of_getElem? (i := 868) (by decide +kernel)
theorem fl_X12_123 : Cond.fieldLink RX12 123 "TapeEndModel" "latest" "I" ∈ lw_tbl := List.mem_of_getElem? (i := 869) (by decide +kernel)
theorem fl_X12_38 : Cond.fieldLink RX12 38 "TapeEndModel" "some" "[J" ∈ lw_tbl := List.mem_of_getElem? (i := 870) (by decide +kernel)
theorem fl_X12_41 : Cond.fieldLink RX12 41 "TapeEndModel" "isKept" "[Z" ∈ lw_tbl := List.mem_of_getElem? (i := 871) (by decide +kernel)
theorem fl_X12_45 : Cond.fieldLink RX12 45 "TapeEndModel" "kept" "[I" ∈ lw_tbl := List.mem_of_getElem? (i := 872) (by decide +kernel)
theorem fl_X12_48 : Cond.fieldLink RX12 48 "TapeEndModel" "keptLike" "[J" ∈ lw_tbl := List.mem_of_getElem? (i := 873) (by decide +kernel)
theorem fl_X12_51 : Cond.fieldLink RX12 51 "TapeEndModel" "trace" "[I" ∈ lw_tbl := List.mem_of_getElem? (i := 874) (by decide +kernel)
theorem fl_X12_261 : Cond.fieldLink RX12 261 "TapeEndModel" "traced" "I" ∈ lw_tbl := List.mem_of_getElem? (i := 875) (by decide +kernel)
theorem su_X12_Obj : Cond.superclass RX12 "java/lang/Object" ∈ lw_tbl := List.mem_of_getElem? (i := 928) (by decide +kernel)
theorem ac_boolean : Cond.arrayClass FieldType.boolean ∈ lw_tbl := List.mem_of_getElem? (i := 929) (by decide +kernel)
theorem ml_L_17 : Cond.methodLink RL 17 yX12_row ∈ lw_tbl := List.mem_of_getElem? (i := 930) (by decide +kernel)
theorem im_X12_row : Cond.instanceMethod yX12_row ∈ lw_tbl := List.mem_of_getElem? (i := 931) (by decide +kernel)
theorem se_X12_X12_row : Cond.selects RX12 yX12_row yX12_row ∈ lw_tbl := List.mem_of_getElem? (i := 932) (by decide +kernel)
theorem cd_X12_row : Cond.code yX12_row cX12_row 5 (Option.some FieldType.int) ∈ lw_tbl := List.mem_of_getElem? (i := 933) (by decide +kernel)
theorem ml_X12_68 : Cond.methodLink RX12 68 yX12_isRow ∈ lw_tbl := List.mem_of_getElem? (i := 934) (by decide +kernel)
theorem st_X12_isRow : Cond.static yX12_isRow ∈ lw_tbl := List.mem_of_getElem? (i := 935) (by decide +kernel)
theorem cd_X12_isRow : Cond.code yX12_isRow cX12_isRow 1 (Option.some FieldType.boolean) ∈ lw_tbl := List.mem_of_getElem? (i := 936) (by decide +kernel)
theorem kL_X12_62 : Cond.constantLong RX12 62 (7) ∈ lw_tbl := List.mem_of_getElem? (i := 937) (by decide +kernel)
theorem ml_X12_64 : Cond.methodLink RX12 64 yX12_in ∈ lw_tbl := List.mem_of_getElem? (i := 938) (by decide +kernel)
theorem st_X12_in : Cond.static yX12_in ∈ lw_tbl := List.mem_of_getElem? (i := 939) (by decide +kernel)
theorem cd_X12_in : Cond.code yX12_in cX12_in 6 (Option.some FieldType.boolean) ∈ lw_tbl := List.mem_of_getElem? (i := 940) (by decide +kernel)
theorem kL_X12_72 : Cond.constantLong RX12 72 (2) ∈ lw_tbl := List.mem_of_getElem? (i := 941) (by decide +kernel)
theorem kI_X12_74 : Cond.constant RX12 74 (-1000001) ∈ lw_tbl := List.mem_of_getElem? (i := 942) (by decide +kernel)
theorem ml_X12_75 : Cond.methodLink RX12 75 yX12_finding ∈ lw_tbl := List.mem_of_getElem? (i := 943) (by decide +kernel)
theorem pm_X12_finding : Cond.privateMethod yX12_finding ∈ lw_tbl := List.mem_of_getElem? (i := 944) (by decide +kernel)
theorem im_X12_finding : Cond.instanceMethod yX12_finding ∈ lw_tbl := List.mem_of_getElem? (i := 945) (by decide +kernel)
theorem cd_X12_finding : Cond.code yX12_finding cX12_finding 2 (Option.some FieldType.int) ∈ lw_tbl := List.mem_of_getElem? (i := 946) (by decide +kernel)
theorem kI_X12_61 : Cond.constant RX12 61 (-1000010) ∈ lw_tbl := List.mem_of_getElem? (i := 947) (by decide +kernel)
theorem ml_L_21 : Cond.methodLink RL 21 yX12_set ∈ lw_tbl := List.mem_of_getElem? (i := 948) (by decide +kernel)
theorem im_X12_set : Cond.instanceMethod yX12_set ∈ lw_tbl := List.mem_of_getElem? (i := 949) (by decide +kernel)
theorem se_X12_X12_set : Cond.selects RX12 yX12_set yX12_set ∈ lw_tbl := List.mem_of_getElem? (i := 950) (by decide +kernel)
theorem cd_X12_set : Cond.code yX12_set cX12_set 4 (Option.some FieldType.int) ∈ lw_tbl := List.mem_of_getElem? (i := 951) (by decide +kernel)
theorem ml_L_26 : Cond.methodLink RL 26 yX12_copy ∈ lw_tbl := List.mem_of_getElem? (i := 952) (by decide +kernel)
theorem im_X12_copy : Cond.instanceMethod yX12_copy ∈ lw_tbl := List.mem_of_getElem? (i := 953) (by decide +kernel)
theorem se_X12_X12_copy : Cond.selects RX12 yX12_copy yX12_copy ∈ lw_tbl := List.mem_of_getElem? (i := 954) (by decide +kernel)
theorem cd_X12_copy : Cond.code yX12_copy cX12_copy 9 (Option.some FieldType.int) ∈ lw_tbl := List.mem_of_getElem? (i := 955) (by decide +kernel)
theorem ml_L_31 : Cond.methodLink RL 31 yX12_drop ∈ lw_tbl := List.mem_of_getElem? (i := 956) (by decide +kernel)
theorem im_X12_drop : Cond.instanceMethod yX12_drop ∈ lw_tbl := List.mem_of_getElem? (i := 957) (by decide +kernel)
theorem se_X12_X12_drop : Cond.selects RX12 yX12_drop yX12_drop ∈ lw_tbl := List.mem_of_getElem? (i := 958) (by decide +kernel)
theorem cd_X12_drop : Cond.code yX12_drop cX12_drop 2 (Option.some FieldType.int) ∈ lw_tbl := List.mem_of_getElem? (i := 959) (by decide +kernel)
theorem ml_L_35 : Cond.methodLink RL 35 yX12_feed ∈ lw_tbl := List.mem_of_getElem? (i := 960) (by decide +kernel)
theorem im_X12_feed : Cond.instanceMethod yX12_feed ∈ lw_tbl := List.mem_of_getElem? (i := 961) (by decide +kernel)
theorem se_X12_X12_feed : Cond.selects RX12 yX12_feed yX12_feed ∈ lw_tbl := List.mem_of_getElem? (i := 962) (by decide +kernel)
theorem cd_X12_feed : Cond.code yX12_feed cX12_feed 2 (Option.some FieldType.int) ∈ lw_tbl := List.mem_of_getElem? (i := 963) (by decide +kernel)
theorem kL_X12_79 : Cond.constantLong RX12 79 (255) ∈ lw_tbl := List.mem_of_getElem? (i := 964) (by decide +kernel)
theorem kI_X12_84 : Cond.constant RX12 84 (-1000003) ∈ lw_tbl := List.mem_of_getElem? (i := 965) (by decide +kernel)
theorem ml_L_44 : Cond.methodLink RL 44 yX12_fault ∈ lw_tbl := List.mem_of_getElem? (i := 966) (by decide +kernel)
theorem im_X12_fault : Cond.instanceMethod yX12_fault ∈ lw_tbl := List.mem_of_getElem? (i := 967) (by decide +kernel)
theorem se_X12_X12_fault : Cond.selects RX12 yX12_fault yX12_fault ∈ lw_tbl := List.mem_of_getElem? (i := 968) (by decide +kernel)
theorem cd_X12_fault : Cond.code yX12_fault cX12_fault 1 (Option.some FieldType.int) ∈ lw_tbl := List.mem_of_getElem? (i := 969) (by decide +kernel)
theorem ml_L_40 : Cond.methodLink RL 40 yX12_roll ∈ lw_tbl := List.mem_of_getElem? (i := 970) (by decide +kernel)
theorem im_X12_roll : Cond.instanceMethod yX12_roll ∈ lw_tbl := List.mem_of_getElem? (i := 971) (by decide +kernel)
theorem se_X12_X12_roll : Cond.selects RX12 yX12_roll yX12_roll ∈ lw_tbl := List.mem_of_getElem? (i := 972) (by decide +kernel)
theorem cd_X12_roll : Cond.code yX12_roll cX12_roll 2 (Option.some FieldType.int) ∈ lw_tbl := List.mem_of_getElem? (i := 973) (by decide +kernel)
theorem ml_X12_139 : Cond.methodLink RX12 139 yX12_beginText ∈ lw_tbl := List.mem_of_getElem? (i := 974) (by decide +kernel)
theorem pm_X12_beginText : Cond.privateMethod yX12_beginText ∈ lw_tbl := List.mem_of_getElem? (i := 975) (by decide +kernel)
theorem im_X12_beginText : Cond.instanceMethod yX12_beginText ∈ lw_tbl := List.mem_of_getElem? (i := 976) (by decide +kernel)
theorem cd_X12_beginText : Cond.code yX12_beginText cX12_beginText 1 none ∈ lw_tbl := List.mem_of_getElem? (i := 977) (by decide +kernel)
theorem ml_X12_116 : Cond.methodLink RX12 116 yX12_nextToken ∈ lw_tbl := List.mem_of_getElem? (i := 978) (by decide +kernel)
theorem pm_X12_nextToken : Cond.privateMethod yX12_nextToken ∈ lw_tbl := List.mem_of_getElem? (i := 979) (by decide +kernel)
theorem im_X12_nextToken : Cond.instanceMethod yX12_nextToken ∈ lw_tbl := List.mem_of_getElem? (i := 980) (by decide +kernel)
theorem cd_X12_nextToken : Cond.code yX12_nextToken cX12_nextToken 1 none ∈ lw_tbl := List.mem_of_getElem? (i := 981) (by decide +kernel)
theorem kI_X12_97 : Cond.constant RX12 97 (-1000000) ∈ lw_tbl := List.mem_of_getElem? (i := 982) (by decide +kernel)
theorem kL_X12_101 : Cond.constantLong RX12 101 (97) ∈ lw_tbl := List.mem_of_getElem? (i := 983) (by decide +kernel)
theorem kL_X12_103 : Cond.constantLong RX12 103 (122) ∈ lw_tbl := List.mem_of_getElem? (i := 984) (by decide +kernel)
theorem kL_X12_105 : Cond.constantLong RX12 105 (48) ∈ lw_tbl := List.mem_of_getElem? (i := 985) (by decide +kernel)
theorem kL_X12_107 : Cond.constantLong RX12 107 (57) ∈ lw_tbl := List.mem_of_getElem? (i := 986) (by decide +kernel)
theorem ml_X12_126 : Cond.methodLink RX12 126 yX12_isLetter ∈ lw_tbl := List.mem_of_getElem? (i := 987) (by decide +kernel)
theorem pm_X12_isLetter : Cond.privateMethod yX12_isLetter ∈ lw_tbl := List.mem_of_getElem? (i := 988) (by decide +kernel)
theorem im_X12_isLetter : Cond.instanceMethod yX12_isLetter ∈ lw_tbl := List.mem_of_getElem? (i := 989) (by decide +kernel)
theorem cd_X12_isLetter : Cond.code yX12_isLetter cX12_isLetter 2 (Option.some FieldType.boolean) ∈ lw_tbl := List.mem_of_getElem? (i := 990) (by decide +kernel)
theorem ml_X12_119 : Cond.methodLink RX12 119 yX12_must ∈ lw_tbl := List.mem_of_getElem? (i := 991) (by decide +kernel)
theorem pm_X12_must : Cond.privateMethod yX12_must ∈ lw_tbl := List.mem_of_getElem? (i := 992) (by decide +kernel)
theorem im_X12_must : Cond.instanceMethod yX12_must ∈ lw_tbl := List.mem_of_getElem? (i := 993) (by decide +kernel)
theorem cd_X12_must : Cond.code yX12_must cX12_must 2 none ∈ lw_tbl := List.mem_of_getElem? (i := 994) (by decide +kernel)
theorem ml_X12_112 : Cond.methodLink RX12 112 yX12_bad ∈ lw_tbl := List.mem_of_getElem? (i := 995) (by decide +kernel)
theorem pm_X12_bad : Cond.privateMethod yX12_bad ∈ lw_tbl := List.mem_of_getElem? (i := 996) (by decide +kernel)
theorem im_X12_bad : Cond.instanceMethod yX12_bad ∈ lw_tbl := List.mem_of_getElem? (i := 997) (by decide +kernel)
theorem cd_X12_bad : Cond.code yX12_bad cX12_bad 2 none ∈ lw_tbl := List.mem_of_getElem? (i := 998) (by decide +kernel)
theorem ml_X12_129 : Cond.methodLink RX12 129 yX12_number ∈ lw_tbl := List.mem_of_getElem? (i := 999) (by decide +kernel)
theorem pm_X12_number : Cond.privateMethod yX12_number ∈ lw_tbl := List.mem_of_getElem? (i := 1000) (by decide +kernel)
theorem im_X12_number : Cond.instanceMethod yX12_number ∈ lw_tbl := List.mem_of_getElem? (i := 1001) (by decide +kernel)
theorem cd_X12_number : Cond.code yX12_number cX12_number 4 (Option.some FieldType.int) ∈ lw_tbl := List.mem_of_getElem? (i := 1002) (by decide +kernel)
theorem ml_X12_133 : Cond.methodLink RX12 133 yX12_mustSign ∈ lw_tbl := List.mem_of_getElem? (i := 1003) (by decide +kernel)
theorem pm_X12_mustSign : Cond.privateMethod yX12_mustSign ∈ lw_tbl := List.mem_of_getElem? (i := 1004) (by decide +kernel)
theorem im_X12_mustSign : Cond.instanceMethod yX12_mustSign ∈ lw_tbl := List.mem_of_getElem? (i := 1005) (by decide +kernel)
theorem cd_X12_mustSign : Cond.code yX12_mustSign cX12_mustSign 2 none ∈ lw_tbl := List.mem_of_getElem? (i := 1006) (by decide +kernel)
theorem ml_X12_142 : Cond.methodLink RX12 142 yX12_readPlaces ∈ lw_tbl := List.mem_of_getElem? (i := 1007) (by decide +kernel)
theorem pm_X12_readPlaces : Cond.privateMethod yX12_readPlaces ∈ lw_tbl := List.mem_of_getElem? (i := 1008) (by decide +kernel)
theorem im_X12_readPlaces : Cond.instanceMethod yX12_readPlaces ∈ lw_tbl := List.mem_of_getElem? (i := 1009) (by decide +kernel)
theorem cd_X12_readPlaces : Cond.code yX12_readPlaces cX12_readPlaces 2 none ∈ lw_tbl := List.mem_of_getElem? (i := 1010) (by decide +kernel)
theorem ml_X12_145 : Cond.methodLink RX12 145 yX12_readRidge ∈ lw_tbl := List.mem_of_getElem? (i := 1011) (by decide +kernel)
theorem pm_X12_readRidge : Cond.privateMethod yX12_readRidge ∈ lw_tbl := List.mem_of_getElem? (i := 1012) (by decide +kernel)
theorem im_X12_readRidge : Cond.instanceMethod yX12_readRidge ∈ lw_tbl := List.mem_of_getElem? (i := 1013) (by decide +kernel)
theorem cd_X12_readRidge : Cond.code yX12_readRidge cX12_readRidge 3 none ∈ lw_tbl := List.mem_of_getElem? (i := 1014) (by decide +kernel)
theorem ml_X12_136 : Cond.methodLink RX12 136 yX12_kindBy ∈ lw_tbl := List.mem_of_getElem? (i := 1015) (by decide +kernel)
theorem st_X12_kindBy : Cond.static yX12_kindBy ∈ lw_tbl := List.mem_of_getElem? (i := 1016) (by decide +kernel)
theorem cd_X12_kindBy : Cond.code yX12_kindBy cX12_kindBy 1 (Option.some FieldType.int) ∈ lw_tbl := List.mem_of_getElem? (i := 1017) (by decide +kernel)
theorem ml_X12_148 : Cond.methodLink RX12 148 yX12_readSeeker ∈ lw_tbl := List.mem_of_getElem? (i := 1018) (by decide +kernel)
theorem pm_X12_readSeeker : Cond.privateMethod yX12_readSeeker ∈ lw_tbl := List.mem_of_getElem? (i := 1019) (by decide +kernel)
theorem im_X12_readSeeker : Cond.instanceMethod yX12_readSeeker ∈ lw_tbl := List.mem_of_getElem? (i := 1020) (by decide +kernel)
theorem cd_X12_readSeeker : Cond.code yX12_readSeeker cX12_readSeeker 5 none ∈ lw_tbl := List.mem_of_getElem? (i := 1021) (by decide +kernel)
theorem ml_X12_151 : Cond.methodLink RX12 151 yX12_failed ∈ lw_tbl := List.mem_of_getElem? (i := 1022) (by decide +kernel)
theorem pm_X12_failed : Cond.privateMethod yX12_failed ∈ lw_tbl := List.mem_of_getElem? (i := 1023) (by decide +kernel)
theorem im_X12_failed : Cond.instanceMethod yX12_failed ∈ lw_tbl := List.mem_of_getElem? (i := 1024) (by decide +kernel)
theorem cd_X12_failed : Cond.code yX12_failed cX12_failed 1 (Option.some FieldType.boolean) ∈ lw_tbl := List.mem_of_getElem? (i := 1025) (by decide +kernel)
theorem kI_X12_155 : Cond.constant RX12 155 (-1000100) ∈ lw_tbl := List.mem_of_getElem? (i := 1026) (by decide +kernel)
theorem ml_L_53 : Cond.methodLink RL 53 yX12_touch ∈ lw_tbl := List.mem_of_getElem? (i := 1027) (by decide +kernel)
theorem im_X12_touch : Cond.instanceMethod yX12_touch ∈ lw_tbl := List.mem_of_getElem? (i := 1028) (by decide +kernel)
theorem se_X12_X12_touch : Cond.selects RX12 yX12_touch yX12_touch ∈ lw_tbl := List.mem_of_getElem? (i := 1029) (by decide +kernel)
theorem cd_X12_touch : Cond.code yX12_touch cX12_touch 6 (Option.some FieldType.int) ∈ lw_tbl := List.mem_of_getElem? (i := 1030) (by decide +kernel)
theorem ml_X12_165 : Cond.methodLink RX12 165 yX12_isSeeker ∈ lw_tbl := List.mem_of_getElem? (i := 1031) (by decide +kernel)
theorem pm_X12_isSeeker : Cond.privateMethod yX12_isSeeker ∈ lw_tbl := List.mem_of_getElem? (i := 1032) (by decide +kernel)
theorem im_X12_isSeeker : Cond.instanceMethod yX12_isSeeker ∈ lw_tbl := List.mem_of_getElem? (i := 1033) (by decide +kernel)
theorem cd_X12_isSeeker : Cond.code yX12_isSeeker cX12_isSeeker 2 (Option.some FieldType.boolean) ∈ lw_tbl := List.mem_of_getElem? (i := 1034) (by decide +kernel)
theorem ml_X12_168 : Cond.methodLink RX12 168 yX12_speaks ∈ lw_tbl := List.mem_of_getElem? (i := 1035) (by decide +kernel)
theorem pm_X12_speaks : Cond.privateMethod yX12_speaks ∈ lw_tbl := List.mem_of_getElem? (i := 1036) (by decide +kernel)
theorem im_X12_speaks : Cond.instanceMethod yX12_speaks ∈ lw_tbl := List.mem_of_getElem? (i := 1037) (by decide +kernel)
theorem cd_X12_speaks : Cond.code yX12_speaks cX12_speaks 6 (Option.some FieldType.int) ∈ lw_tbl := List.mem_of_getElem? (i := 1038) (by decide +kernel)
theorem ml_X12_162 : Cond.methodLink RX12 162 yX12_feel ∈ lw_tbl := List.mem_of_getElem? (i := 1039) (by decide +kernel)
theorem pm_X12_feel : Cond.privateMethod yX12_feel ∈ lw_tbl := List.mem_of_getElem? (i := 1040) (by decide +kernel)
theorem im_X12_feel : Cond.instanceMethod yX12_feel ∈ lw_tbl := List.mem_of_getElem? (i := 1041) (by decide +kernel)
theorem cd_X12_feel : Cond.code yX12_feel cX12_feel 6 (Option.some FieldType.int) ∈ lw_tbl := List.mem_of_getElem? (i := 1042) (by decide +kernel)
theorem ml_X12_159 : Cond.methodLink RX12 159 yX12_of ∈ lw_tbl := List.mem_of_getElem? (i := 1043) (by decide +kernel)
theorem pm_X12_of : Cond.privateMethod yX12_of ∈ lw_tbl := List.mem_of_getElem? (i := 1044) (by decide +kernel)
theorem im_X12_of : Cond.instanceMethod yX12_of ∈ lw_tbl := List.mem_of_getElem? (i := 1045) (by decide +kernel)
theorem cd_X12_of : Cond.code yX12_of cX12_of 3 (Option.some FieldType.int) ∈ lw_tbl := List.mem_of_getElem? (i := 1046) (by decide +kernel)
theorem kI_X12_172 : Cond.constant RX12 172 (-1000002) ∈ lw_tbl := List.mem_of_getElem? (i := 1047) (by decide +kernel)
theorem ml_X12_173 : Cond.methodLink RX12 173 yX12_keep ∈ lw_tbl := List.mem_of_getElem? (i := 1048) (by decide +kernel)
theorem pm_X12_keep : Cond.privateMethod yX12_keep ∈ lw_tbl := List.mem_of_getElem? (i := 1049) (by decide +kernel)
theorem im_X12_keep : Cond.instanceMethod yX12_keep ∈ lw_tbl := List.mem_of_getElem? (i := 1050) (by decide +kernel)
theorem cd_X12_keep : Cond.code yX12_keep cX12_keep 2 none ∈ lw_tbl := List.mem_of_getElem? (i := 1051) (by decide +kernel)
theorem ml_L_57 : Cond.methodLink RL 57 yX12_go ∈ lw_tbl := List.mem_of_getElem? (i := 1052) (by decide +kernel)
theorem im_X12_go : Cond.instanceMethod yX12_go ∈ lw_tbl := List.mem_of_getElem? (i := 1053) (by decide +kernel)
theorem se_X12_X12_go : Cond.selects RX12 yX12_go yX12_go ∈ lw_tbl := List.mem_of_getElem? (i := 1054) (by decide +kernel)
theorem cd_X12_go : Cond.code yX12_go cX12_go 3 (Option.some FieldType.int) ∈ lw_tbl := List.mem_of_getElem? (i := 1055) (by decide +kernel)
theorem ml_X12_176 : Cond.methodLink RX12 176 yX12_isThere ∈ lw_tbl := List.mem_of_getElem? (i := 1056) (by decide +kernel)
theorem pm_X12_isThere : Cond.privateMethod yX12_isThere ∈ lw_tbl := List.mem_of_getElem? (i := 1057) (by decide +kernel)
theorem im_X12_isThere : Cond.instanceMethod yX12_isThere ∈ lw_tbl := List.mem_of_getElem? (i := 1058) (by decide +kernel)
theorem cd_X12_isThere : Cond.code yX12_isThere cX12_isThere 1 (Option.some FieldType.boolean) ∈ lw_tbl := List.mem_of_getElem? (i := 1059) (by decide +kernel)
theorem kL_X12_179 : Cond.constantLong RX12 179 (12) ∈ lw_tbl := List.mem_of_getElem? (i := 1060) (by decide +kernel)
theorem ml_X12_181 : Cond.methodLink RX12 181 yX12_around ∈ lw_tbl := List.mem_of_getElem? (i := 1061) (by decide +kernel)
theorem pm_X12_around : Cond.privateMethod yX12_around ∈ lw_tbl := List.mem_of_getElem? (i := 1062) (by decide +kernel)
theorem im_X12_around : Cond.instanceMethod yX12_around ∈ lw_tbl := List.mem_of_getElem? (i := 1063) (by decide +kernel)
theorem cd_X12_around : Cond.code yX12_around cX12_around 2 (Option.some FieldType.int) ∈ lw_tbl := List.mem_of_getElem? (i := 1064) (by decide +kernel)
theorem ml_L_61 : Cond.methodLink RL 61 yX12_over ∈ lw_tbl := List.mem_of_getElem? (i := 1065) (by decide +kernel)
theorem im_X12_over : Cond.instanceMethod yX12_over ∈ lw_tbl := List.mem_of_getElem? (i := 1066) (by decide +kernel)
theorem se_X12_X12_over : Cond.selects RX12 yX12_over yX12_over ∈ lw_tbl := List.mem_of_getElem? (i := 1067) (by decide +kernel)
theorem cd_X12_over : Cond.code yX12_over cX12_over 1 (Option.some FieldType.int) ∈ lw_tbl := List.mem_of_getElem? (i := 1068) (by decide +kernel)
theorem ml_L_65 : Cond.methodLink RL 65 yX12_seek ∈ lw_tbl := List.mem_of_getElem? (i := 1069) (by decide +kernel)
theorem im_X12_seek : Cond.instanceMethod yX12_seek ∈ lw_tbl := List.mem_of_getElem? (i := 1070) (by decide +kernel)
theorem se_X12_X12_seek : Cond.selects RX12 yX12_seek yX12_seek ∈ lw_tbl := List.mem_of_getElem? (i := 1071) (by decide +kernel)
theorem cd_X12_seek : Cond.code yX12_seek cX12_seek 4 (Option.some FieldType.int) ∈ lw_tbl := List.mem_of_getElem? (i := 1072) (by decide +kernel)
theorem ml_X12_191 : Cond.methodLink RX12 191 yX12_nextNow ∈ lw_tbl := List.mem_of_getElem? (i := 1073) (by decide +kernel)
theorem pm_X12_nextNow : Cond.privateMethod yX12_nextNow ∈ lw_tbl := List.mem_of_getElem? (i := 1074) (by decide +kernel)
theorem im_X12_nextNow : Cond.instanceMethod yX12_nextNow ∈ lw_tbl := List.mem_of_getElem? (i := 1075) (by decide +kernel)
theorem cd_X12_nextNow : Cond.code yX12_nextNow cX12_nextNow 3 (Option.some FieldType.int) ∈ lw_tbl := List.mem_of_getElem? (i := 1076) (by decide +kernel)
theorem ml_X12_187 : Cond.methodLink RX12 187 yX12_nextOf ∈ lw_tbl := List.mem_of_getElem? (i := 1077) (by decide +kernel)
theorem pm_X12_nextOf : Cond.privateMethod yX12_nextOf ∈ lw_tbl := List.mem_of_getElem? (i := 1078) (by decide +kernel)
theorem im_X12_nextOf : Cond.instanceMethod yX12_nextOf ∈ lw_tbl := List.mem_of_getElem? (i := 1079) (by decide +kernel)
theorem cd_X12_nextOf : Cond.code yX12_nextOf cX12_nextOf 4 (Option.some FieldType.int) ∈ lw_tbl := List.mem_of_getElem? (i := 1080) (by decide +kernel)
theorem ml_X12_184 : Cond.methodLink RX12 184 yX12_likeliestBut ∈ lw_tbl := List.mem_of_getElem? (i := 1081) (by decide +kernel)
theorem pm_X12_likeliestBut : Cond.privateMethod yX12_likeliestBut ∈ lw_tbl := List.mem_of_getElem? (i := 1082) (by decide +kernel)
theorem im_X12_likeliestBut : Cond.instanceMethod yX12_likeliestBut ∈ lw_tbl := List.mem_of_getElem? (i := 1083) (by decide +kernel)
theorem cd_X12_likeliestBut : Cond.code yX12_likeliestBut cX12_likeliestBut 4 (Option.some FieldType.int) ∈ lw_tbl := List.mem_of_getElem? (i := 1084) (by decide +kernel)
theorem ml_L_69 : Cond.methodLink RL 69 yX12_fold ∈ lw_tbl := List.mem_of_getElem? (i := 1085) (by decide +kernel)
theorem im_X12_fold : Cond.instanceMethod yX12_fold ∈ lw_tbl := List.mem_of_getElem? (i := 1086) (by decide +kernel)
theorem se_X12_X12_fold : Cond.selects RX12 yX12_fold yX12_fold ∈ lw_tbl := List.mem_of_getElem? (i := 1087) (by decide +kernel)
theorem cd_X12_fold : Cond.code yX12_fold cX12_fold 3 (Option.some FieldType.int) ∈ lw_tbl := List.mem_of_getElem? (i := 1088) (by decide +kernel)
theorem ml_X12_194 : Cond.methodLink RX12 194 yX12_isPlace ∈ lw_tbl := List.mem_of_getElem? (i := 1089) (by decide +kernel)
theorem pm_X12_isPlace : Cond.privateMethod yX12_isPlace ∈ lw_tbl := List.mem_of_getElem? (i := 1090) (by decide +kernel)
theorem im_X12_isPlace : Cond.instanceMethod yX12_isPlace ∈ lw_tbl := List.mem_of_getElem? (i := 1091) (by decide +kernel)
theorem cd_X12_isPlace : Cond.code yX12_isPlace cX12_isPlace 2 (Option.some FieldType.boolean) ∈ lw_tbl := List.mem_of_getElem? (i := 1092) (by decide +kernel)
theorem ml_L_48 : Cond.methodLink RL 48 yX12_undo ∈ lw_tbl := List.mem_of_getElem? (i := 1093) (by decide +kernel)
theorem im_X12_undo : Cond.instanceMethod yX12_undo ∈ lw_tbl := List.mem_of_getElem? (i := 1094) (by decide +kernel)
theorem se_X12_X12_undo : Cond.selects RX12 yX12_undo yX12_undo ∈ lw_tbl := List.mem_of_getElem? (i := 1095) (by decide +kernel)
theorem cd_X12_undo : Cond.code yX12_undo cX12_undo 2 (Option.some FieldType.int) ∈ lw_tbl := List.mem_of_getElem? (i := 1096) (by decide +kernel)
theorem ml_L_73 : Cond.methodLink RL 73 yX12_nail ∈ lw_tbl := List.mem_of_getElem? (i := 1097) (by decide +kernel)
theorem im_X12_nail : Cond.instanceMethod yX12_nail ∈ lw_tbl := List.mem_of_getElem? (i := 1098) (by decide +kernel)
theorem se_X12_X12_nail : Cond.selects RX12 yX12_nail yX12_nail ∈ lw_tbl := List.mem_of_getElem? (i := 1099) (by decide +kernel)
theorem cd_X12_nail : Cond.code yX12_nail cX12_nail 2 (Option.some FieldType.int) ∈ lw_tbl := List.mem_of_getElem? (i := 1100) (by decide +kernel)
theorem kL_X12_197 : Cond.constantLong RX12 197 (5) ∈ lw_tbl := List.mem_of_getElem? (i := 1101) (by decide +kernel)
theorem ml_L_77 : Cond.methodLink RL 77 yX12_place ∈ lw_tbl := List.mem_of_getElem? (i := 1102) (by decide +kernel)
theorem im_X12_place : Cond.instanceMethod yX12_place ∈ lw_tbl := List.mem_of_getElem? (i := 1103) (by decide +kernel)
theorem se_X12_X12_place : Cond.selects RX12 yX12_place yX12_place ∈ lw_tbl := List.mem_of_getElem? (i := 1104) (by decide +kernel)
theorem cd_X12_place : Cond.code yX12_place cX12_place 3 (Option.some FieldType.int) ∈ lw_tbl := List.mem_of_getElem? (i := 1105) (by decide +kernel)
theorem ml_L_81 : Cond.methodLink RL 81 yX12_seeker ∈ lw_tbl := List.mem_of_getElem? (i := 1106) (by decide +kernel)
theorem im_X12_seeker : Cond.instanceMethod yX12_seeker ∈ lw_tbl := List.mem_of_getElem? (i := 1107) (by decide +kernel)
theorem se_X12_X12_seeker : Cond.selects RX12 yX12_seeker yX12_seeker ∈ lw_tbl := List.mem_of_getElem? (i := 1108) (by decide +kernel)
theorem cd_X12_seeker : Cond.code yX12_seeker cX12_seeker 3 (Option.some FieldType.int) ∈ lw_tbl := List.mem_of_getElem? (i := 1109) (by decide +kernel)
theorem kL_X12_199 : Cond.constantLong RX12 199 (3) ∈ lw_tbl := List.mem_of_getElem? (i := 1110) (by decide +kernel)
theorem ml_L_86 : Cond.methodLink RL 86 yX12_likelihood ∈ lw_tbl := List.mem_of_getElem? (i := 1111) (by decide +kernel)
theorem im_X12_likelihood : Cond.instanceMethod yX12_likelihood ∈ lw_tbl := List.mem_of_getElem? (i := 1112) (by decide +kernel)
theorem se_X12_X12_likelihood : Cond.selects RX12 yX12_likelihood yX12_likelihood ∈ lw_tbl := List.mem_of_getElem? (i := 1113) (by decide +kernel)
theorem cd_X12_likelihood : Cond.code yX12_likelihood cX12_likelihood 2 (Option.some FieldType.long) ∈ lw_tbl := List.mem_of_getElem? (i := 1114) (by decide +kernel)
theorem kL_X12_201 : Cond.constantLong RX12 201 (-1000001) ∈ lw_tbl := List.mem_of_getElem? (i := 1115) (by decide +kernel)
theorem ml_L_91 : Cond.methodLink RL 91 yX12_likely ∈ lw_tbl := List.mem_of_getElem? (i := 1116) (by decide +kernel)
theorem im_X12_likely : Cond.instanceMethod yX12_likely ∈ lw_tbl := List.mem_of_getElem? (i := 1117) (by decide +kernel)
theorem se_X12_X12_likely : Cond.selects RX12 yX12_likely yX12_likely ∈ lw_tbl := List.mem_of_getElem? (i := 1118) (by decide +kernel)
theorem cd_X12_likely : Cond.code yX12_likely cX12_likely 3 (Option.some FieldType.long) ∈ lw_tbl := List.mem_of_getElem? (i := 1119) (by decide +kernel)
theorem ml_X12_205 : Cond.methodLink RX12 205 yX12_allLike ∈ lw_tbl := List.mem_of_getElem? (i := 1120) (by decide +kernel)
theorem pm_X12_allLike : Cond.privateMethod yX12_allLike ∈ lw_tbl := List.mem_of_getElem? (i := 1121) (by decide +kernel)
theorem im_X12_allLike : Cond.instanceMethod yX12_allLike ∈ lw_tbl := List.mem_of_getElem? (i := 1122) (by decide +kernel)
theorem cd_X12_allLike : Cond.code yX12_allLike cX12_allLike 4 (Option.some FieldType.long) ∈ lw_tbl := List.mem_of_getElem? (i := 1123) (by decide +kernel)
theorem ml_X12_209 : Cond.methodLink RX12 209 yX12_part ∈ lw_tbl := List.mem_of_getElem? (i := 1124) (by decide +kernel)
theorem st_X12_part : Cond.static yX12_part ∈ lw_tbl := List.mem_of_getElem? (i := 1125) (by decide +kernel)
theorem cd_X12_part : Cond.code yX12_part cX12_part 11 (Option.some FieldType.long) ∈ lw_tbl := List.mem_of_getElem? (i := 1126) (by decide +kernel)
theorem ml_L_95 : Cond.methodLink RL 95 yX12_felt ∈ lw_tbl := List.mem_of_getElem? (i := 1127) (by decide +kernel)
theorem im_X12_felt : Cond.instanceMethod yX12_felt ∈ lw_tbl := List.mem_of_getElem? (i := 1128) (by decide +kernel)
theorem se_X12_X12_felt : Cond.selects RX12 yX12_felt yX12_felt ∈ lw_tbl := List.mem_of_getElem? (i := 1129) (by decide +kernel)
theorem cd_X12_felt : Cond.code yX12_felt cX12_felt 6 (Option.some FieldType.long) ∈ lw_tbl := List.mem_of_getElem? (i := 1130) (by decide +kernel)
theorem kL_X12_203 : Cond.constantLong RX12 203 (10) ∈ lw_tbl := List.mem_of_getElem? (i := 1131) (by decide +kernel)
theorem ml_L_99 : Cond.methodLink RL 99 yX12_surest ∈ lw_tbl := List.mem_of_getElem? (i := 1132) (by decide +kernel)
theorem im_X12_surest : Cond.instanceMethod yX12_surest ∈ lw_tbl := List.mem_of_getElem? (i := 1133) (by decide +kernel)
theorem se_X12_X12_surest : Cond.selects RX12 yX12_surest yX12_surest ∈ lw_tbl := List.mem_of_getElem? (i := 1134) (by decide +kernel)
theorem cd_X12_surest : Cond.code yX12_surest cX12_surest 3 (Option.some FieldType.int) ∈ lw_tbl := List.mem_of_getElem? (i := 1135) (by decide +kernel)
theorem ml_L_104 : Cond.methodLink RL 104 yX12_mean ∈ lw_tbl := List.mem_of_getElem? (i := 1136) (by decide +kernel)
theorem im_X12_mean : Cond.instanceMethod yX12_mean ∈ lw_tbl := List.mem_of_getElem? (i := 1137) (by decide +kernel)
theorem se_X12_X12_mean : Cond.selects RX12 yX12_mean yX12_mean ∈ lw_tbl := List.mem_of_getElem? (i := 1138) (by decide +kernel)
theorem cd_X12_mean : Cond.code yX12_mean cX12_mean 6 (Option.some FieldType.long) ∈ lw_tbl := List.mem_of_getElem? (i := 1139) (by decide +kernel)
theorem ml_X12_217 : Cond.methodLink RX12 217 yX12_isWay ∈ lw_tbl := List.mem_of_getElem? (i := 1140) (by decide +kernel)
theorem st_X12_isWay : Cond.static yX12_isWay ∈ lw_tbl := List.mem_of_getElem? (i := 1141) (by decide +kernel)
theorem cd_X12_isWay : Cond.code yX12_isWay cX12_isWay 1 (Option.some FieldType.boolean) ∈ lw_tbl := List.mem_of_getElem? (i := 1142) (by decide +kernel)
theorem ml_X12_220 : Cond.methodLink RX12 220 yX12_meanOf ∈ lw_tbl := List.mem_of_getElem? (i := 1143) (by decide +kernel)
theorem pm_X12_meanOf : Cond.privateMethod yX12_meanOf ∈ lw_tbl := List.mem_of_getElem? (i := 1144) (by decide +kernel)
theorem im_X12_meanOf : Cond.instanceMethod yX12_meanOf ∈ lw_tbl := List.mem_of_getElem? (i := 1145) (by decide +kernel)
theorem cd_X12_meanOf : Cond.code yX12_meanOf cX12_meanOf 20 (Option.some FieldType.long) ∈ lw_tbl := List.mem_of_getElem? (i := 1146) (by decide +kernel)
theorem ml_X12_213 : Cond.methodLink RX12 213 yX12_tens ∈ lw_tbl := List.mem_of_getElem? (i := 1147) (by decide +kernel)
theorem st_X12_tens : Cond.static yX12_tens ∈ lw_tbl := List.mem_of_getElem? (i := 1148) (by decide +kernel)
theorem cd_X12_tens : Cond.code yX12_tens cX12_tens 4 (Option.some FieldType.long) ∈ lw_tbl := List.mem_of_getElem? (i := 1149) (by decide +kernel)
theorem ml_L_108 : Cond.methodLink RL 108 yX12_begin ∈ lw_tbl := List.mem_of_getElem? (i := 1150) (by decide +kernel)
theorem im_X12_begin : Cond.instanceMethod yX12_begin ∈ lw_tbl := List.mem_of_getElem? (i := 1151) (by decide +kernel)
theorem se_X12_X12_begin : Cond.selects RX12 yX12_begin yX12_begin ∈ lw_tbl := List.mem_of_getElem? (i := 1152) (by decide +kernel)
theorem cd_X12_begin : Cond.code yX12_begin cX12_begin 9 (Option.some FieldType.int) ∈ lw_tbl := List.mem_of_getElem? (i := 1153) (by decide +kernel)
theorem ml_L_112 : Cond.methodLink RL 112 yX12_noEnd ∈ lw_tbl := List.mem_of_getElem? (i := 1154) (by decide +kernel)
theorem im_X12_noEnd : Cond.instanceMethod yX12_noEnd ∈ lw_tbl := List.mem_of_getElem? (i := 1155) (by decide +kernel)
theorem se_X12_X12_noEnd : Cond.selects RX12 yX12_noEnd yX12_noEnd ∈ lw_tbl := List.mem_of_getElem? (i := 1156) (by decide +kernel)
theorem cd_X12_noEnd : Cond.code yX12_noEnd cX12_noEnd 9 (Option.some FieldType.int) ∈ lw_tbl := List.mem_of_getElem? (i := 1157) (by decide +kernel)
theorem kL_X12_224 : Cond.constantLong RX12 224 (99) ∈ lw_tbl := List.mem_of_getElem? (i := 1158) (by decide +kernel)
theorem kL_X12_226 : Cond.constantLong RX12 226 (100) ∈ lw_tbl := List.mem_of_getElem? (i := 1159) (by decide +kernel)
theorem ml_L_117 : Cond.methodLink RL 117 yX12_width ∈ lw_tbl := List.mem_of_getElem? (i := 1160) (by decide +kernel)
theorem im_X12_width : Cond.instanceMethod yX12_width ∈ lw_tbl := List.mem_of_getElem? (i := 1161) (by decide +kernel)
theorem se_X12_X12_width : Cond.selects RX12 yX12_width yX12_width ∈ lw_tbl := List.mem_of_getElem? (i := 1162) (by decide +kernel)
theorem cd_X12_width : Cond.code yX12_width cX12_width 5 (Option.some FieldType.int) ∈ lw_tbl := List.mem_of_getElem? (i := 1163) (by decide +kernel)
theorem ml_X12_232 : Cond.methodLink RX12 232 yX12_isSplinter ∈ lw_tbl := List.mem_of_getElem? (i := 1164) (by decide +kernel)
theorem st_X12_isSplinter : Cond.static yX12_isSplinter ∈ lw_tbl := List.mem_of_getElem? (i := 1165) (by decide +kernel)
theorem cd_X12_isSplinter : Cond.code yX12_isSplinter cX12_isSplinter 3 (Option.some FieldType.boolean) ∈ lw_tbl := List.mem_of_getElem? (i := 1166) (by decide +kernel)
theorem kL_X12_228 : Cond.constantLong RX12 228 (19) ∈ lw_tbl := List.mem_of_getElem? (i := 1167) (by decide +kernel)
theorem kL_X12_230 : Cond.constantLong RX12 230 (9) ∈ lw_tbl := List.mem_of_getElem? (i := 1168) (by decide +kernel)
theorem kL_X12_236 : Cond.constantLong RX12 236 (40) ∈ lw_tbl := List.mem_of_getElem? (i := 1169) (by decide +kernel)
theorem ml_X12_238 : Cond.methodLink RX12 238 yX12_wide ∈ lw_tbl := List.mem_of_getElem? (i := 1170) (by decide +kernel)
theorem st_X12_wide : Cond.static yX12_wide ∈ lw_tbl := List.mem_of_getElem? (i := 1171) (by decide +kernel)
theorem cd_X12_wide : Cond.code yX12_wide cX12_wide 5 (Option.some FieldType.int) ∈ lw_tbl := List.mem_of_getElem? (i := 1172) (by decide +kernel)
theorem ml_L_121 : Cond.methodLink RL 121 yX12_lost ∈ lw_tbl := List.mem_of_getElem? (i := 1173) (by decide +kernel)
theorem im_X12_lost : Cond.instanceMethod yX12_lost ∈ lw_tbl := List.mem_of_getElem? (i := 1174) (by decide +kernel)
theorem se_X12_X12_lost : Cond.selects RX12 yX12_lost yX12_lost ∈ lw_tbl := List.mem_of_getElem? (i := 1175) (by decide +kernel)
theorem cd_X12_lost : Cond.code yX12_lost cX12_lost 6 (Option.some FieldType.int) ∈ lw_tbl := List.mem_of_getElem? (i := 1176) (by decide +kernel)
theorem ml_L_125 : Cond.methodLink RL 125 yX12_pays ∈ lw_tbl := List.mem_of_getElem? (i := 1177) (by decide +kernel)
theorem im_X12_pays : Cond.instanceMethod yX12_pays ∈ lw_tbl := List.mem_of_getElem? (i := 1178) (by decide +kernel)
theorem se_X12_X12_pays : Cond.selects RX12 yX12_pays yX12_pays ∈ lw_tbl := List.mem_of_getElem? (i := 1179) (by decide +kernel)
theorem cd_X12_pays : Cond.code yX12_pays cX12_pays 8 (Option.some FieldType.int) ∈ lw_tbl := List.mem_of_getElem? (i := 1180) (by decide +kernel)
theorem ml_L_129 : Cond.methodLink RL 129 yX12_whose ∈ lw_tbl := List.mem_of_getElem? (i := 1181) (by decide +kernel)
theorem im_X12_whose : Cond.instanceMethod yX12_whose ∈ lw_tbl := List.mem_of_getElem? (i := 1182) (by decide +kernel)
theorem se_X12_X12_whose : Cond.selects RX12 yX12_whose yX12_whose ∈ lw_tbl := List.mem_of_getElem? (i := 1183) (by decide +kernel)
theorem cd_X12_whose : Cond.code yX12_whose cX12_whose 7 (Option.some FieldType.int) ∈ lw_tbl := List.mem_of_getElem? (i := 1184) (by decide +kernel)
theorem kL_X12_241 : Cond.constantLong RX12 241 (6) ∈ lw_tbl := List.mem_of_getElem? (i := 1185) (by decide +kernel)
theorem ml_X12_243 : Cond.methodLink RX12 243 yX12_isHis ∈ lw_tbl := List.mem_of_getElem? (i := 1186) (by decide +kernel)
theorem pm_X12_isHis : Cond.privateMethod yX12_isHis ∈ lw_tbl := List.mem_of_getElem? (i := 1187) (by decide +kernel)
theorem im_X12_isHis : Cond.instanceMethod yX12_isHis ∈ lw_tbl := List.mem_of_getElem? (i := 1188) (by decide +kernel)
theorem cd_X12_isHis : Cond.code yX12_isHis cX12_isHis 6 (Option.some FieldType.boolean) ∈ lw_tbl := List.mem_of_getElem? (i := 1189) (by decide +kernel)
theorem ml_L_133 : Cond.methodLink RL 133 yX12_rule ∈ lw_tbl := List.mem_of_getElem? (i := 1190) (by decide +kernel)
theorem im_X12_rule : Cond.instanceMethod yX12_rule ∈ lw_tbl := List.mem_of_getElem? (i := 1191) (by decide +kernel)
theorem se_X12_X12_rule : Cond.selects RX12 yX12_rule yX12_rule ∈ lw_tbl := List.mem_of_getElem? (i := 1192) (by decide +kernel)
theorem cd_X12_rule : Cond.code yX12_rule cX12_rule 10 (Option.some FieldType.long) ∈ lw_tbl := List.mem_of_getElem? (i := 1193) (by decide +kernel)
theorem kL_X12_246 : Cond.constantLong RX12 246 (8) ∈ lw_tbl := List.mem_of_getElem? (i := 1194) (by decide +kernel)
theorem ml_X12_248 : Cond.methodLink RX12 248 yX12_notBy ∈ lw_tbl := List.mem_of_getElem? (i := 1195) (by decide +kernel)
theorem pm_X12_notBy : Cond.privateMethod yX12_notBy ∈ lw_tbl := List.mem_of_getElem? (i := 1196) (by decide +kernel)
theorem im_X12_notBy : Cond.instanceMethod yX12_notBy ∈ lw_tbl := List.mem_of_getElem? (i := 1197) (by decide +kernel)
theorem cd_X12_notBy : Cond.code yX12_notBy cX12_notBy 10 (Option.some FieldType.long) ∈ lw_tbl := List.mem_of_getElem? (i := 1198) (by decide +kernel)
theorem ml_L_137 : Cond.methodLink RL 137 yX12_search ∈ lw_tbl := List.mem_of_getElem? (i := 1199) (by decide +kernel)
theorem im_X12_search : Cond.instanceMethod yX12_search ∈ lw_tbl := List.mem_of_getElem? (i := 1200) (by decide +kernel)
theorem se_X12_X12_search : Cond.selects RX12 yX12_search yX12_search ∈ lw_tbl := List.mem_of_getElem? (i := 1201) (by decide +kernel)
theorem cd_X12_search : Cond.code yX12_search cX12_search 14 (Option.some FieldType.int) ∈ lw_tbl := List.mem_of_getElem? (i := 1202) (by decide +kernel)
theorem kL_X12_251 : Cond.constantLong RX12 251 (999999) ∈ lw_tbl := List.mem_of_getElem? (i := 1203) (by decide +kernel)
theorem kL_X12_253 : Cond.constantLong RX12 253 (16807) ∈ lw_tbl := List.mem_of_getElem? (i := 1204) (by decide +kernel)
theorem kL_X12_255 : Cond.constantLong RX12 255 (2147483647) ∈ lw_tbl := List.mem_of_getElem? (i := 1205) (by decide +kernel)
theorem ml_L_141 : Cond.methodLink RL 141 yX12_image ∈ lw_tbl := List.mem_of_getElem? (i := 1206) (by decide +kernel)
theorem im_X12_image : Cond.instanceMethod yX12_image ∈ lw_tbl := List.mem_of_getElem? (i := 1207) (by decide +kernel)
theorem se_X12_X12_image : Cond.selects RX12 yX12_image yX12_image ∈ lw_tbl := List.mem_of_getElem? (i := 1208) (by decide +kernel)
theorem cd_X12_image : Cond.code yX12_image cX12_image 3 (Option.some FieldType.int) ∈ lw_tbl := List.mem_of_getElem? (i := 1209) (by decide +kernel)
theorem ml_L_145 : Cond.methodLink RL 145 yX12_restore ∈ lw_tbl := List.mem_of_getElem? (i := 1210) (by decide +kernel)
theorem im_X12_restore : Cond.instanceMethod yX12_restore ∈ lw_tbl := List.mem_of_getElem? (i := 1211) (by decide +kernel)
theorem se_X12_X12_restore : Cond.selects RX12 yX12_restore yX12_restore ∈ lw_tbl := List.mem_of_getElem? (i := 1212) (by decide +kernel)
theorem cd_X12_restore : Cond.code yX12_restore cX12_restore 3 (Option.some FieldType.int) ∈ lw_tbl := List.mem_of_getElem? (i := 1213) (by decide +kernel)
theorem ml_L_149 : Cond.methodLink RL 149 yX12_kind ∈ lw_tbl := List.mem_of_getElem? (i := 1214) (by decide +kernel)
theorem im_X12_kind : Cond.instanceMethod yX12_kind ∈ lw_tbl := List.mem_of_getElem? (i := 1215) (by decide +kernel)
theorem se_X12_X12_kind : Cond.selects RX12 yX12_kind yX12_kind ∈ lw_tbl := List.mem_of_getElem? (i := 1216) (by decide +kernel)
theorem cd_X12_kind : Cond.code yX12_kind cX12_kind 2 (Option.some FieldType.int) ∈ lw_tbl := List.mem_of_getElem? (i := 1217) (by decide +kernel)
theorem ml_L_153 : Cond.methodLink RL 153 yX12_as ∈ lw_tbl := List.mem_of_getElem? (i := 1218) (by decide +kernel)
theorem im_X12_as : Cond.instanceMethod yX12_as ∈ lw_tbl := List.mem_of_getElem? (i := 1219) (by decide +kernel)
theorem se_X12_X12_as : Cond.selects RX12 yX12_as yX12_as ∈ lw_tbl := List.mem_of_getElem? (i := 1220) (by decide +kernel)
theorem cd_X12_as : Cond.code yX12_as cX12_as 3 (Option.some FieldType.int) ∈ lw_tbl := List.mem_of_getElem? (i := 1221) (by decide +kernel)
theorem ml_X12_257 : Cond.methodLink RX12 257 yX12_isOf ∈ lw_tbl := List.mem_of_getElem? (i := 1222) (by decide +kernel)
theorem st_X12_isOf : Cond.static yX12_isOf ∈ lw_tbl := List.mem_of_getElem? (i := 1223) (by decide +kernel)
theorem cd_X12_isOf : Cond.code yX12_isOf cX12_isOf 2 (Option.some FieldType.boolean) ∈ lw_tbl := List.mem_of_getElem? (i := 1224) (by decide +kernel)
theorem ml_L_157 : Cond.methodLink RL 157 yX12_ask ∈ lw_tbl := List.mem_of_getElem? (i := 1225) (by decide +kernel)
theorem im_X12_ask : Cond.instanceMethod yX12_ask ∈ lw_tbl := List.mem_of_getElem? (i := 1226) (by decide +kernel)
theorem se_X12_X12_ask : Cond.selects RX12 yX12_ask yX12_ask ∈ lw_tbl := List.mem_of_getElem? (i := 1227) (by decide +kernel)
theorem cd_X12_ask : Cond.code yX12_ask cX12_ask 3 (Option.some FieldType.int) ∈ lw_tbl := List.mem_of_getElem? (i := 1228) (by decide +kernel)
theorem ml_X12_276 : Cond.methodLink RX12 276 yX12_sizeOf ∈ lw_tbl := List.mem_of_getElem? (i := 1229) (by decide +kernel)
theorem pm_X12_sizeOf : Cond.privateMethod yX12_sizeOf ∈ lw_tbl := List.mem_of_getElem? (i := 1230) (by decide +kernel)
theorem im_X12_sizeOf : Cond.instanceMethod yX12_sizeOf ∈ lw_tbl := List.mem_of_getElem? (i := 1231) (by decide +kernel)
theorem cd_X12_sizeOf : Cond.code yX12_sizeOf cX12_sizeOf 4 (Option.some FieldType.int) ∈ lw_tbl := List.mem_of_getElem? (i := 1232) (by decide +kernel)
theorem ml_X12_270 : Cond.methodLink RX12 270 yX12_likeSize ∈ lw_tbl := List.mem_of_getElem? (i := 1233) (by decide +kernel)
theorem pm_X12_likeSize : Cond.privateMethod yX12_likeSize ∈ lw_tbl := List.mem_of_getElem? (i := 1234) (by decide +kernel)
theorem im_X12_likeSize : Cond.instanceMethod yX12_likeSize ∈ lw_tbl := List.mem_of_getElem? (i := 1235) (by decide +kernel)
theorem cd_X12_likeSize : Cond.code yX12_likeSize cX12_likeSize 3 (Option.some FieldType.int) ∈ lw_tbl := List.mem_of_getElem? (i := 1236) (by decide +kernel)
theorem ml_X12_264 : Cond.methodLink RX12 264 yX12_began ∈ lw_tbl := List.mem_of_getElem? (i := 1237) (by decide +kernel)
theorem pm_X12_began : Cond.privateMethod yX12_began ∈ lw_tbl := List.mem_of_getElem? (i := 1238) (by decide +kernel)
theorem im_X12_began : Cond.instanceMethod yX12_began ∈ lw_tbl := List.mem_of_getElem? (i := 1239) (by decide +kernel)
theorem cd_X12_began : Cond.code yX12_began cX12_began 2 none ∈ lw_tbl := List.mem_of_getElem? (i := 1240) (by decide +kernel)
theorem ml_X12_267 : Cond.methodLink RX12 267 yX12_plainSize ∈ lw_tbl := List.mem_of_getElem? (i := 1241) (by decide +kernel)
theorem pm_X12_plainSize : Cond.privateMethod yX12_plainSize ∈ lw_tbl := List.mem_of_getElem? (i := 1242) (by decide +kernel)
theorem im_X12_plainSize : Cond.instanceMethod yX12_plainSize ∈ lw_tbl := List.mem_of_getElem? (i := 1243) (by decide +kernel)
theorem cd_X12_plainSize : Cond.code yX12_plainSize cX12_plainSize 2 (Option.some FieldType.int) ∈ lw_tbl := List.mem_of_getElem? (i := 1244) (by decide +kernel)
theorem ml_X12_273 : Cond.methodLink RX12 273 yX12_markOf ∈ lw_tbl := List.mem_of_getElem? (i := 1245) (by decide +kernel)
theorem pm_X12_markOf : Cond.privateMethod yX12_markOf ∈ lw_tbl := List.mem_of_getElem? (i := 1246) (by decide +kernel)
theorem im_X12_markOf : Cond.instanceMethod yX12_markOf ∈ lw_tbl := List.mem_of_getElem? (i := 1247) (by decide +kernel)
theorem cd_X12_markOf : Cond.code yX12_markOf cX12_markOf 4 (Option.some FieldType.int) ∈ lw_tbl := List.mem_of_getElem? (i := 1248) (by decide +kernel)
theorem ml_L_161 : Cond.methodLink RL 161 yX12_trace ∈ lw_tbl := List.mem_of_getElem? (i := 1249) (by decide +kernel)
theorem im_X12_trace : Cond.instanceMethod yX12_trace ∈ lw_tbl := List.mem_of_getElem? (i := 1250) (by decide +kernel)
theorem se_X12_X12_trace : Cond.selects RX12 yX12_trace yX12_trace ∈ lw_tbl := List.mem_of_getElem? (i := 1251) (by decide +kernel)
theorem cd_X12_trace : Cond.code yX12_trace cX12_trace 2 (Option.some FieldType.int) ∈ lw_tbl := List.mem_of_getElem? (i := 1252) (by decide +kernel)
theorem ml_L_165 : Cond.methodLink RL 165 yX12_count ∈ lw_tbl := List.mem_of_getElem? (i := 1253) (by decide +kernel)
theorem im_X12_count : Cond.instanceMethod yX12_count ∈ lw_tbl := List.mem_of_getElem? (i := 1254) (by decide +kernel)
theorem se_X12_X12_count : Cond.selects RX12 yX12_count yX12_count ∈ lw_tbl := List.mem_of_getElem? (i := 1255) (by decide +kernel)
theorem cd_X12_count : Cond.code yX12_count cX12_count 4 (Option.some FieldType.int) ∈ lw_tbl := List.mem_of_getElem? (i := 1256) (by decide +kernel)
theorem ml_L_169 : Cond.methodLink RL 169 yX12_status ∈ lw_tbl := List.mem_of_getElem? (i := 1257) (by decide +kernel)
theorem im_X12_status : Cond.instanceMethod yX12_status ∈ lw_tbl := List.mem_of_getElem? (i := 1258) (by decide +kernel)
theorem se_X12_X12_status : Cond.selects RX12 yX12_status yX12_status ∈ lw_tbl := List.mem_of_getElem? (i := 1259) (by decide +kernel)
theorem cd_X12_status : Cond.code yX12_status cX12_status 1 (Option.some FieldType.int) ∈ lw_tbl := List.mem_of_getElem? (i := 1260) (by decide +kernel)
theorem sm_X5_nextPlace_X5 : Cond.sameMethod "TapeEnd$Round" "TapeEnd$Round" "nextPlace" "(LTapeEnd$Roll;)I" ∈ lw_tbl := List.mem_of_getElem? (i := 1261) (by decide +kernel)
theorem sm_X3_nextPlace_X3 : Cond.sameMethod "TapeEnd$Likeliest" "TapeEnd$Likeliest" "nextPlace" "(LTapeEnd$Roll;)I" ∈ lw_tbl := List.mem_of_getElem? (i := 1262) (by decide +kernel)
theorem sm_X5_askSize_X5 : Cond.sameMethod "TapeEnd$Round" "TapeEnd$Round" "askSize" "(LTapeEnd$Trace;)I" ∈ lw_tbl := List.mem_of_getElem? (i := 1263) (by decide +kernel)
theorem sm_X7_askMark_X7 : Cond.sameMethod "TapeEnd$Seeker" "TapeEnd$Seeker" "askMark" "(LTapeEnd$Trace;)I" ∈ lw_tbl := List.mem_of_getElem? (i := 1264) (by decide +kernel)
theorem sm_X3_askSize_X3 : Cond.sameMethod "TapeEnd$Likeliest" "TapeEnd$Likeliest" "askSize" "(LTapeEnd$Trace;)I" ∈ lw_tbl := List.mem_of_getElem? (i := 1265) (by decide +kernel)
theorem se_X0_X7_askMark_X0_askMark : Cond.selects RX0 yX7_askMark yX0_askMark ∈ lw_tbl := List.mem_of_getElem? (i := 1266) (by decide +kernel)
theorem se_X1_X7_askMark_X1_askMark : Cond.selects RX1 yX7_askMark yX1_askMark ∈ lw_tbl := List.mem_of_getElem? (i := 1267) (by decide +kernel)
theorem se_X3_X7_askMark_X3_askMark : Cond.selects RX3 yX7_askMark yX3_askMark ∈ lw_tbl := List.mem_of_getElem? (i := 1268) (by decide +kernel)
theorem se_X3_X3_askSize : Cond.selects RX3 yX3_askSize yX3_askSize ∈ lw_tbl := List.mem_of_getElem? (i := 1269) (by decide +kernel)
theorem se_X8_X3_askSize_X8_askSize : Cond.selects RX8 yX3_askSize yX8_askSize ∈ lw_tbl := List.mem_of_getElem? (i := 1270) (by decide +kernel)
theorem se_X5_X7_askMark_X5_askMark : Cond.selects RX5 yX7_askMark yX5_askMark ∈ lw_tbl := List.mem_of_getElem? (i := 1271) (by decide +kernel)
theorem se_X8_X7_askMark_X3_askMark : Cond.selects RX8 yX7_askMark yX3_askMark ∈ lw_tbl := List.mem_of_getElem? (i := 1272) (by decide +kernel)
theorem ca_X0_X5 : Cond.castable RX0 RX5 ∈ lw_tbl := List.mem_of_getElem? (i := 1273) (by decide +kernel)
theorem ca_X1_X5 : Cond.castable RX1 RX5 ∈ lw_tbl := List.mem_of_getElem? (i := 1274) (by decide +kernel)
theorem ca_X8_X3 : Cond.castable RX8 RX3 ∈ lw_tbl := List.mem_of_getElem? (i := 1275) (by decide +kernel)
theorem ca_X0_X7 : Cond.castable RX0 RX7 ∈ lw_tbl := List.mem_of_getElem? (i := 1276) (by decide +kernel)
theorem ca_X1_X7 : Cond.castable RX1 RX7 ∈ lw_tbl := List.mem_of_getElem? (i := 1277) (by decide +kernel)
theorem ca_X3_X7 : Cond.castable RX3 RX7 ∈ lw_tbl := List.mem_of_getElem? (i := 1278) (by decide +kernel)
theorem ca_X8_X7 : Cond.castable RX8 RX7 ∈ lw_tbl := List.mem_of_getElem? (i := 1279) (by decide +kernel)
theorem ca_X5_X7 : Cond.castable RX5 RX7 ∈ lw_tbl := List.mem_of_getElem? (i := 1280) (by decide +kernel)
