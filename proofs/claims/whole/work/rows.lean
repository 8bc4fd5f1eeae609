section
-- ===== PART A: goes FIRST, ahead of the names: the tables' words, and 'selects' of the private methods out of them =====
/-- a private method of a class that the tables say can be made, by its rows of tables_1 -/
def lw_okq (q : MethodName × Nat) : Prop := (q.1.cls ≠ "java/lang/invoke/MethodHandle" ∧ q.1.cls ≠ "java/lang/invoke/VarHandle") ∧ Cond.instantiable q.1.cls q.2 ∈ tables_1 ∧ Cond.privateMethod q.1 ∈ tables_1 ∧ Cond.instanceMethod q.1 ∈ tables_1
theorem lw_p0 : lw_okq (⟨"PairedTumblers", "save", "()V"⟩, 9) := ⟨⟨by decide +kernel, by decide +kernel⟩, List.mem_of_getElem? (i := 19) (by decide +kernel), List.mem_of_getElem? (i := 211) (by decide +kernel), List.mem_of_getElem? (i := 212) (by decide +kernel)⟩
theorem lw_p1 : lw_okq (⟨"PairedTumblers", "dropOldest", "()V"⟩, 9) := ⟨⟨by decide +kernel, by decide +kernel⟩, List.mem_of_getElem? (i := 19) (by decide +kernel), List.mem_of_getElem? (i := 215) (by decide +kernel), List.mem_of_getElem? (i := 216) (by decide +kernel)⟩
theorem lw_p2 : lw_okq (⟨"PairedTumblers", "writeSaved", "(LPairedTumblers$State;)V"⟩, 9) := ⟨⟨by decide +kernel, by decide +kernel⟩, List.mem_of_getElem? (i := 19) (by decide +kernel), List.mem_of_getElem? (i := 219) (by decide +kernel), List.mem_of_getElem? (i := 220) (by decide +kernel)⟩
theorem lw_p3 : lw_okq (⟨"PairedTumblers$WordText", "takes", "(C)Z"⟩, 11) := ⟨⟨by decide +kernel, by decide +kernel⟩, List.mem_of_getElem? (i := 101) (by decide +kernel), List.mem_of_getElem? (i := 274) (by decide +kernel), List.mem_of_getElem? (i := 275) (by decide +kernel)⟩
theorem lw_p4 : lw_okq (⟨"PairedTumblers$WordText", "takesFigure", "(C)Z"⟩, 11) := ⟨⟨by decide +kernel, by decide +kernel⟩, List.mem_of_getElem? (i := 101) (by decide +kernel), List.mem_of_getElem? (i := 278) (by decide +kernel), List.mem_of_getElem? (i := 279) (by decide +kernel)⟩
theorem lw_p5 : lw_okq (⟨"PairedTumblers$WordText", "repeat", "(II)V"⟩, 11) := ⟨⟨by decide +kernel, by decide +kernel⟩, List.mem_of_getElem? (i := 101) (by decide +kernel), List.mem_of_getElem? (i := 282) (by decide +kernel), List.mem_of_getElem? (i := 283) (by decide +kernel)⟩
theorem lw_p6 : lw_okq (⟨"PairedTumblers$WordText", "addMove", "(I)V"⟩, 11) := ⟨⟨by decide +kernel, by decide +kernel⟩, List.mem_of_getElem? (i := 101) (by decide +kernel), List.mem_of_getElem? (i := 290) (by decide +kernel), List.mem_of_getElem? (i := 291) (by decide +kernel)⟩
theorem lw_p7 : lw_okq (⟨"PairedTumblers$WordText", "takesMove", "(I)Z"⟩, 11) := ⟨⟨by decide +kernel, by decide +kernel⟩, List.mem_of_getElem? (i := 101) (by decide +kernel), List.mem_of_getElem? (i := 297) (by decide +kernel), List.mem_of_getElem? (i := 298) (by decide +kernel)⟩
theorem lw_p8 : lw_okq (⟨"PairedTumblers$WordText", "takesOpening", "(I)Z"⟩, 11) := ⟨⟨by decide +kernel, by decide +kernel⟩, List.mem_of_getElem? (i := 101) (by decide +kernel), List.mem_of_getElem? (i := 301) (by decide +kernel), List.mem_of_getElem? (i := 302) (by decide +kernel)⟩
theorem lw_p9 : lw_okq (⟨"PairedTumblers$WordText", "takesInBracket", "(C)Z"⟩, 11) := ⟨⟨by decide +kernel, by decide +kernel⟩, List.mem_of_getElem? (i := 101) (by decide +kernel), List.mem_of_getElem? (i := 305) (by decide +kernel), List.mem_of_getElem? (i := 306) (by decide +kernel)⟩
theorem lw_p10 : lw_okq (⟨"PairedTumblers$WordText", "addOpposite", "(III)V"⟩, 11) := ⟨⟨by decide +kernel, by decide +kernel⟩, List.mem_of_getElem? (i := 101) (by decide +kernel), List.mem_of_getElem? (i := 309) (by decide +kernel), List.mem_of_getElem? (i := 310) (by decide +kernel)⟩
theorem lw_p11 : lw_okq (⟨"PairedTumblers", "showPair", "(II)V"⟩, 9) := ⟨⟨by decide +kernel, by decide +kernel⟩, List.mem_of_getElem? (i := 19) (by decide +kernel), List.mem_of_getElem? (i := 331) (by decide +kernel), List.mem_of_getElem? (i := 332) (by decide +kernel)⟩
theorem lw_p12 : lw_okq (⟨"java/lang/Throwable", "fillInStackTrace", "(I)Ljava/lang/Throwable;"⟩, 6) := ⟨⟨by decide +kernel, by decide +kernel⟩, List.mem_of_getElem? (i := 433) (by decide +kernel), List.mem_of_getElem? (i := 431) (by decide +kernel), List.mem_of_getElem? (i := 432) (by decide +kernel)⟩
theorem lw_p13 : lw_okq (⟨"PairedTumblers", "mixPositions", "(J)J"⟩, 9) := ⟨⟨by decide +kernel, by decide +kernel⟩, List.mem_of_getElem? (i := 19) (by decide +kernel), List.mem_of_getElem? (i := 467) (by decide +kernel), List.mem_of_getElem? (i := 468) (by decide +kernel)⟩
theorem lw_p14 : lw_okq (⟨"PairedTumblers", "mixKeys", "(J)J"⟩, 9) := ⟨⟨by decide +kernel, by decide +kernel⟩, List.mem_of_getElem? (i := 19) (by decide +kernel), List.mem_of_getElem? (i := 513) (by decide +kernel), List.mem_of_getElem? (i := 514) (by decide +kernel)⟩
theorem lw_p15 : lw_okq (⟨"PairedTumblers", "showKey", "(I)V"⟩, 9) := ⟨⟨by decide +kernel, by decide +kernel⟩, List.mem_of_getElem? (i := 19) (by decide +kernel), List.mem_of_getElem? (i := 527) (by decide +kernel), List.mem_of_getElem? (i := 528) (by decide +kernel)⟩
def lw_privs_1 : List (MethodName × Nat) := [(⟨"PairedTumblers", "save", "()V"⟩, 9), (⟨"PairedTumblers", "dropOldest", "()V"⟩, 9), (⟨"PairedTumblers", "writeSaved", "(LPairedTumblers$State;)V"⟩, 9), (⟨"PairedTumblers$WordText", "takes", "(C)Z"⟩, 11), (⟨"PairedTumblers$WordText", "takesFigure", "(C)Z"⟩, 11), (⟨"PairedTumblers$WordText", "repeat", "(II)V"⟩, 11), (⟨"PairedTumblers$WordText", "addMove", "(I)V"⟩, 11), (⟨"PairedTumblers$WordText", "takesMove", "(I)Z"⟩, 11), (⟨"PairedTumblers$WordText", "takesOpening", "(I)Z"⟩, 11), (⟨"PairedTumblers$WordText", "takesInBracket", "(C)Z"⟩, 11), (⟨"PairedTumblers$WordText", "addOpposite", "(III)V"⟩, 11), (⟨"PairedTumblers", "showPair", "(II)V"⟩, 9), (⟨"java/lang/Throwable", "fillInStackTrace", "(I)Ljava/lang/Throwable;"⟩, 6), (⟨"PairedTumblers", "mixPositions", "(J)J"⟩, 9), (⟨"PairedTumblers", "mixKeys", "(J)J"⟩, 9), (⟨"PairedTumblers", "showKey", "(I)V"⟩, 9)]
theorem lw_r1 : ∀ q ∈ lw_privs_1, lw_okq q := List.forall_mem_cons.mpr ⟨lw_p0, List.forall_mem_cons.mpr ⟨lw_p1, List.forall_mem_cons.mpr ⟨lw_p2, List.forall_mem_cons.mpr ⟨lw_p3, List.forall_mem_cons.mpr ⟨lw_p4, List.forall_mem_cons.mpr ⟨lw_p5, List.forall_mem_cons.mpr ⟨lw_p6, List.forall_mem_cons.mpr ⟨lw_p7, List.forall_mem_cons.mpr ⟨lw_p8, List.forall_mem_cons.mpr ⟨lw_p9, List.forall_mem_cons.mpr ⟨lw_p10, List.forall_mem_cons.mpr ⟨lw_p11, List.forall_mem_cons.mpr ⟨lw_p12, List.forall_mem_cons.mpr ⟨lw_p13, List.forall_mem_cons.mpr ⟨lw_p14, List.forall_mem_cons.mpr ⟨lw_p15, fun _ h => absurd h List.not_mem_nil⟩⟩⟩⟩⟩⟩⟩⟩⟩⟩⟩⟩⟩⟩⟩⟩
theorem lw_p16 : lw_okq (⟨"PairedTumblers", "periodByDoing", "()I"⟩, 9) := ⟨⟨by decide +kernel, by decide +kernel⟩, List.mem_of_getElem? (i := 19) (by decide +kernel), List.mem_of_getElem? (i := 531) (by decide +kernel), List.mem_of_getElem? (i := 532) (by decide +kernel)⟩
theorem lw_p17 : lw_okq (⟨"PairedTumblers$Discs", "placeOf", "(I)I"⟩, 2) := ⟨⟨by decide +kernel, by decide +kernel⟩, List.mem_of_getElem? (i := 33) (by decide +kernel), List.mem_of_getElem? (i := 544) (by decide +kernel), List.mem_of_getElem? (i := 545) (by decide +kernel)⟩
theorem lw_p18 : lw_okq (⟨"PairedTumblers", "mixPairs", "(J)J"⟩, 9) := ⟨⟨by decide +kernel, by decide +kernel⟩, List.mem_of_getElem? (i := 19) (by decide +kernel), List.mem_of_getElem? (i := 562) (by decide +kernel), List.mem_of_getElem? (i := 563) (by decide +kernel)⟩
theorem lw_p19 : lw_okq (⟨"PairedTumblers$Opener", "listNear", "(LPairedTumblers$State;)V"⟩, 7) := ⟨⟨by decide +kernel, by decide +kernel⟩, List.mem_of_getElem? (i := 147) (by decide +kernel), List.mem_of_getElem? (i := 580) (by decide +kernel), List.mem_of_getElem? (i := 581) (by decide +kernel)⟩
theorem lw_p20 : lw_okq (⟨"PairedTumblers$Opener", "list", "(LPairedTumblers$Discs;I)V"⟩, 7) := ⟨⟨by decide +kernel, by decide +kernel⟩, List.mem_of_getElem? (i := 147) (by decide +kernel), List.mem_of_getElem? (i := 584) (by decide +kernel), List.mem_of_getElem? (i := 585) (by decide +kernel)⟩
theorem lw_p21 : lw_okq (⟨"PairedTumblers$Opener", "listBehindOne", "(LPairedTumblers$State;)V"⟩, 7) := ⟨⟨by decide +kernel, by decide +kernel⟩, List.mem_of_getElem? (i := 147) (by decide +kernel), List.mem_of_getElem? (i := 595) (by decide +kernel), List.mem_of_getElem? (i := 596) (by decide +kernel)⟩
theorem lw_p22 : lw_okq (⟨"PairedTumblers$Opener", "tryFirst", "(LPairedTumblers$State;I)V"⟩, 7) := ⟨⟨by decide +kernel, by decide +kernel⟩, List.mem_of_getElem? (i := 147) (by decide +kernel), List.mem_of_getElem? (i := 599) (by decide +kernel), List.mem_of_getElem? (i := 600) (by decide +kernel)⟩
theorem lw_p23 : lw_okq (⟨"PairedTumblers$Opener", "listedTurns", "(LPairedTumblers$Discs;)I"⟩, 7) := ⟨⟨by decide +kernel, by decide +kernel⟩, List.mem_of_getElem? (i := 147) (by decide +kernel), List.mem_of_getElem? (i := 603) (by decide +kernel), List.mem_of_getElem? (i := 604) (by decide +kernel)⟩
theorem lw_p24 : lw_okq (⟨"PairedTumblers$Opener", "meetsList", "(LPairedTumblers$State;)Z"⟩, 7) := ⟨⟨by decide +kernel, by decide +kernel⟩, List.mem_of_getElem? (i := 147) (by decide +kernel), List.mem_of_getElem? (i := 607) (by decide +kernel), List.mem_of_getElem? (i := 608) (by decide +kernel)⟩
theorem lw_p25 : lw_okq (⟨"PairedTumblers", "mixBuffer", "(J)J"⟩, 9) := ⟨⟨by decide +kernel, by decide +kernel⟩, List.mem_of_getElem? (i := 19) (by decide +kernel), List.mem_of_getElem? (i := 624) (by decide +kernel), List.mem_of_getElem? (i := 625) (by decide +kernel)⟩
theorem lw_p26 : lw_okq (⟨"PairedTumblers", "turnOnce", "(IZ)I"⟩, 9) := ⟨⟨by decide +kernel, by decide +kernel⟩, List.mem_of_getElem? (i := 19) (by decide +kernel), List.mem_of_getElem? (i := 638) (by decide +kernel), List.mem_of_getElem? (i := 639) (by decide +kernel)⟩
theorem lw_p27 : lw_okq (⟨"PairedTumblers", "ofShortWord", "(I)I"⟩, 9) := ⟨⟨by decide +kernel, by decide +kernel⟩, List.mem_of_getElem? (i := 19) (by decide +kernel), List.mem_of_getElem? (i := 763) (by decide +kernel), List.mem_of_getElem? (i := 764) (by decide +kernel)⟩
theorem lw_p28 : lw_okq (⟨"PairedTumblers", "showWord", "()V"⟩, 9) := ⟨⟨by decide +kernel, by decide +kernel⟩, List.mem_of_getElem? (i := 19) (by decide +kernel), List.mem_of_getElem? (i := 772) (by decide +kernel), List.mem_of_getElem? (i := 773) (by decide +kernel)⟩
theorem lw_p29 : lw_okq (⟨"PairedTumblersModel", "record", "()V"⟩, 21) := ⟨⟨by decide +kernel, by decide +kernel⟩, List.mem_of_getElem? (i := 788) (by decide +kernel), List.mem_of_getElem? (i := 874) (by decide +kernel), List.mem_of_getElem? (i := 875) (by decide +kernel)⟩
theorem lw_p30 : lw_okq (⟨"PairedTumblersModel", "turnNow", "(II)I"⟩, 21) := ⟨⟨by decide +kernel, by decide +kernel⟩, List.mem_of_getElem? (i := 788) (by decide +kernel), List.mem_of_getElem? (i := 882) (by decide +kernel), List.mem_of_getElem? (i := 883) (by decide +kernel)⟩
theorem lw_p31 : lw_okq (⟨"PairedTumblersModel", "isStuck", "(I)Z"⟩, 21) := ⟨⟨by decide +kernel, by decide +kernel⟩, List.mem_of_getElem? (i := 788) (by decide +kernel), List.mem_of_getElem? (i := 892) (by decide +kernel), List.mem_of_getElem? (i := 893) (by decide +kernel)⟩
def lw_privs_2 : List (MethodName × Nat) := [(⟨"PairedTumblers", "periodByDoing", "()I"⟩, 9), (⟨"PairedTumblers$Discs", "placeOf", "(I)I"⟩, 2), (⟨"PairedTumblers", "mixPairs", "(J)J"⟩, 9), (⟨"PairedTumblers$Opener", "listNear", "(LPairedTumblers$State;)V"⟩, 7), (⟨"PairedTumblers$Opener", "list", "(LPairedTumblers$Discs;I)V"⟩, 7), (⟨"PairedTumblers$Opener", "listBehindOne", "(LPairedTumblers$State;)V"⟩, 7), (⟨"PairedTumblers$Opener", "tryFirst", "(LPairedTumblers$State;I)V"⟩, 7), (⟨"PairedTumblers$Opener", "listedTurns", "(LPairedTumblers$Discs;)I"⟩, 7), (⟨"PairedTumblers$Opener", "meetsList", "(LPairedTumblers$State;)Z"⟩, 7), (⟨"PairedTumblers", "mixBuffer", "(J)J"⟩, 9), (⟨"PairedTumblers", "turnOnce", "(IZ)I"⟩, 9), (⟨"PairedTumblers", "ofShortWord", "(I)I"⟩, 9), (⟨"PairedTumblers", "showWord", "()V"⟩, 9), (⟨"PairedTumblersModel", "record", "()V"⟩, 21), (⟨"PairedTumblersModel", "turnNow", "(II)I"⟩, 21), (⟨"PairedTumblersModel", "isStuck", "(I)Z"⟩, 21)]
theorem lw_r2 : ∀ q ∈ lw_privs_2, lw_okq q := List.forall_mem_cons.mpr ⟨lw_p16, List.forall_mem_cons.mpr ⟨lw_p17, List.forall_mem_cons.mpr ⟨lw_p18, List.forall_mem_cons.mpr ⟨lw_p19, List.forall_mem_cons.mpr ⟨lw_p20, List.forall_mem_cons.mpr ⟨lw_p21, List.forall_mem_cons.mpr ⟨lw_p22, List.forall_mem_cons.mpr ⟨lw_p23, List.forall_mem_cons.mpr ⟨lw_p24, List.forall_mem_cons.mpr ⟨lw_p25, List.forall_mem_cons.mpr ⟨lw_p26, List.forall_mem_cons.mpr ⟨lw_p27, List.forall_mem_cons.mpr ⟨lw_p28, List.forall_mem_cons.mpr ⟨lw_p29, List.forall_mem_cons.mpr ⟨lw_p30, List.forall_mem_cons.mpr ⟨lw_p31, fun _ h => absurd h List.not_mem_nil⟩⟩⟩⟩⟩⟩⟩⟩⟩⟩⟩⟩⟩⟩⟩⟩
theorem lw_p32 : lw_okq (⟨"PairedTumblersModel", "has", "(II)Z"⟩, 21) := ⟨⟨by decide +kernel, by decide +kernel⟩, List.mem_of_getElem? (i := 788) (by decide +kernel), List.mem_of_getElem? (i := 896) (by decide +kernel), List.mem_of_getElem? (i := 897) (by decide +kernel)⟩
theorem lw_p33 : lw_okq (⟨"PairedTumblersModel", "countTurn", "(I)V"⟩, 21) := ⟨⟨by decide +kernel, by decide +kernel⟩, List.mem_of_getElem? (i := 788) (by decide +kernel), List.mem_of_getElem? (i := 900) (by decide +kernel), List.mem_of_getElem? (i := 901) (by decide +kernel)⟩
theorem lw_p34 : lw_okq (⟨"PairedTumblersModel", "opens", "()Z"⟩, 21) := ⟨⟨by decide +kernel, by decide +kernel⟩, List.mem_of_getElem? (i := 788) (by decide +kernel), List.mem_of_getElem? (i := 904) (by decide +kernel), List.mem_of_getElem? (i := 905) (by decide +kernel)⟩
theorem lw_p35 : lw_okq (⟨"PairedTumblersModel", "right", "()I"⟩, 21) := ⟨⟨by decide +kernel, by decide +kernel⟩, List.mem_of_getElem? (i := 788) (by decide +kernel), List.mem_of_getElem? (i := 908) (by decide +kernel), List.mem_of_getElem? (i := 909) (by decide +kernel)⟩
theorem lw_p36 : lw_okq (⟨"PairedTumblersModel", "isRight", "(I)Z"⟩, 21) := ⟨⟨by decide +kernel, by decide +kernel⟩, List.mem_of_getElem? (i := 788) (by decide +kernel), List.mem_of_getElem? (i := 912) (by decide +kernel), List.mem_of_getElem? (i := 913) (by decide +kernel)⟩
theorem lw_p37 : lw_okq (⟨"PairedTumblersModel", "doTurn", "(I)V"⟩, 21) := ⟨⟨by decide +kernel, by decide +kernel⟩, List.mem_of_getElem? (i := 788) (by decide +kernel), List.mem_of_getElem? (i := 916) (by decide +kernel), List.mem_of_getElem? (i := 917) (by decide +kernel)⟩
theorem lw_p38 : lw_okq (⟨"PairedTumblersModel", "next", "(II)I"⟩, 21) := ⟨⟨by decide +kernel, by decide +kernel⟩, List.mem_of_getElem? (i := 788) (by decide +kernel), List.mem_of_getElem? (i := 920) (by decide +kernel), List.mem_of_getElem? (i := 921) (by decide +kernel)⟩
theorem lw_p39 : lw_okq (⟨"PairedTumblersModel", "isWhole", "()Z"⟩, 21) := ⟨⟨by decide +kernel, by decide +kernel⟩, List.mem_of_getElem? (i := 788) (by decide +kernel), List.mem_of_getElem? (i := 935) (by decide +kernel), List.mem_of_getElem? (i := 936) (by decide +kernel)⟩
theorem lw_p40 : lw_okq (⟨"PairedTumblersModel", "findError", "()I"⟩, 21) := ⟨⟨by decide +kernel, by decide +kernel⟩, List.mem_of_getElem? (i := 788) (by decide +kernel), List.mem_of_getElem? (i := 939) (by decide +kernel), List.mem_of_getElem? (i := 940) (by decide +kernel)⟩
theorem lw_p41 : lw_okq (⟨"PairedTumblersModel", "takeSign", "(I)Z"⟩, 21) := ⟨⟨by decide +kernel, by decide +kernel⟩, List.mem_of_getElem? (i := 788) (by decide +kernel), List.mem_of_getElem? (i := 943) (by decide +kernel), List.mem_of_getElem? (i := 944) (by decide +kernel)⟩
theorem lw_p42 : lw_okq (⟨"PairedTumblersModel", "readWord", "()I"⟩, 21) := ⟨⟨by decide +kernel, by decide +kernel⟩, List.mem_of_getElem? (i := 788) (by decide +kernel), List.mem_of_getElem? (i := 947) (by decide +kernel), List.mem_of_getElem? (i := 948) (by decide +kernel)⟩
theorem lw_p43 : lw_okq (⟨"PairedTumblersModel", "addAgain", "(IIZ)V"⟩, 21) := ⟨⟨by decide +kernel, by decide +kernel⟩, List.mem_of_getElem? (i := 788) (by decide +kernel), List.mem_of_getElem? (i := 951) (by decide +kernel), List.mem_of_getElem? (i := 952) (by decide +kernel)⟩
theorem lw_p44 : lw_okq (⟨"PairedTumblersModel", "addTurn", "(I)V"⟩, 21) := ⟨⟨by decide +kernel, by decide +kernel⟩, List.mem_of_getElem? (i := 788) (by decide +kernel), List.mem_of_getElem? (i := 955) (by decide +kernel), List.mem_of_getElem? (i := 956) (by decide +kernel)⟩
theorem lw_p45 : lw_okq (⟨"PairedTumblersModel", "away", "()I"⟩, 21) := ⟨⟨by decide +kernel, by decide +kernel⟩, List.mem_of_getElem? (i := 788) (by decide +kernel), List.mem_of_getElem? (i := 963) (by decide +kernel), List.mem_of_getElem? (i := 964) (by decide +kernel)⟩
theorem lw_p46 : lw_okq (⟨"PairedTumblersModel", "toFirst", "()V"⟩, 21) := ⟨⟨by decide +kernel, by decide +kernel⟩, List.mem_of_getElem? (i := 788) (by decide +kernel), List.mem_of_getElem? (i := 967) (by decide +kernel), List.mem_of_getElem? (i := 968) (by decide +kernel)⟩
theorem lw_p47 : lw_okq (⟨"PairedTumblersModel", "stuckKeys", "()I"⟩, 21) := ⟨⟨by decide +kernel, by decide +kernel⟩, List.mem_of_getElem? (i := 788) (by decide +kernel), List.mem_of_getElem? (i := 982) (by decide +kernel), List.mem_of_getElem? (i := 983) (by decide +kernel)⟩
def lw_privs_3 : List (MethodName × Nat) := [(⟨"PairedTumblersModel", "has", "(II)Z"⟩, 21), (⟨"PairedTumblersModel", "countTurn", "(I)V"⟩, 21), (⟨"PairedTumblersModel", "opens", "()Z"⟩, 21), (⟨"PairedTumblersModel", "right", "()I"⟩, 21), (⟨"PairedTumblersModel", "isRight", "(I)Z"⟩, 21), (⟨"PairedTumblersModel", "doTurn", "(I)V"⟩, 21), (⟨"PairedTumblersModel", "next", "(II)I"⟩, 21), (⟨"PairedTumblersModel", "isWhole", "()Z"⟩, 21), (⟨"PairedTumblersModel", "findError", "()I"⟩, 21), (⟨"PairedTumblersModel", "takeSign", "(I)Z"⟩, 21), (⟨"PairedTumblersModel", "readWord", "()I"⟩, 21), (⟨"PairedTumblersModel", "addAgain", "(IIZ)V"⟩, 21), (⟨"PairedTumblersModel", "addTurn", "(I)V"⟩, 21), (⟨"PairedTumblersModel", "away", "()I"⟩, 21), (⟨"PairedTumblersModel", "toFirst", "()V"⟩, 21), (⟨"PairedTumblersModel", "stuckKeys", "()I"⟩, 21)]
theorem lw_r3 : ∀ q ∈ lw_privs_3, lw_okq q := List.forall_mem_cons.mpr ⟨lw_p32, List.forall_mem_cons.mpr ⟨lw_p33, List.forall_mem_cons.mpr ⟨lw_p34, List.forall_mem_cons.mpr ⟨lw_p35, List.forall_mem_cons.mpr ⟨lw_p36, List.forall_mem_cons.mpr ⟨lw_p37, List.forall_mem_cons.mpr ⟨lw_p38, List.forall_mem_cons.mpr ⟨lw_p39, List.forall_mem_cons.mpr ⟨lw_p40, List.forall_mem_cons.mpr ⟨lw_p41, List.forall_mem_cons.mpr ⟨lw_p42, List.forall_mem_cons.mpr ⟨lw_p43, List.forall_mem_cons.mpr ⟨lw_p44, List.forall_mem_cons.mpr ⟨lw_p45, List.forall_mem_cons.mpr ⟨lw_p46, List.forall_mem_cons.mpr ⟨lw_p47, fun _ h => absurd h List.not_mem_nil⟩⟩⟩⟩⟩⟩⟩⟩⟩⟩⟩⟩⟩⟩⟩⟩
theorem lw_p48 : lw_okq (⟨"PairedTumblersModel", "notches", "()I"⟩, 21) := ⟨⟨by decide +kernel, by decide +kernel⟩, List.mem_of_getElem? (i := 788) (by decide +kernel), List.mem_of_getElem? (i := 990) (by decide +kernel), List.mem_of_getElem? (i := 991) (by decide +kernel)⟩
theorem lw_p49 : lw_okq (⟨"PairedTumblersModel", "atNow", "(II)I"⟩, 21) := ⟨⟨by decide +kernel, by decide +kernel⟩, List.mem_of_getElem? (i := 788) (by decide +kernel), List.mem_of_getElem? (i := 1010) (by decide +kernel), List.mem_of_getElem? (i := 1011) (by decide +kernel)⟩
theorem lw_p50 : lw_okq (⟨"PairedTumblersModel", "keysAt", "(I)I"⟩, 21) := ⟨⟨by decide +kernel, by decide +kernel⟩, List.mem_of_getElem? (i := 788) (by decide +kernel), List.mem_of_getElem? (i := 1014) (by decide +kernel), List.mem_of_getElem? (i := 1015) (by decide +kernel)⟩
theorem lw_p51 : lw_okq (⟨"PairedTumblersModel", "keyNow", "(II)I"⟩, 21) := ⟨⟨by decide +kernel, by decide +kernel⟩, List.mem_of_getElem? (i := 788) (by decide +kernel), List.mem_of_getElem? (i := 1022) (by decide +kernel), List.mem_of_getElem? (i := 1023) (by decide +kernel)⟩
theorem lw_p52 : lw_okq (⟨"PairedTumblersModel", "keyPeriod", "(I)I"⟩, 21) := ⟨⟨by decide +kernel, by decide +kernel⟩, List.mem_of_getElem? (i := 788) (by decide +kernel), List.mem_of_getElem? (i := 1026) (by decide +kernel), List.mem_of_getElem? (i := 1027) (by decide +kernel)⟩
theorem lw_p53 : lw_okq (⟨"PairedTumblersModel", "putAside", "()V"⟩, 21) := ⟨⟨by decide +kernel, by decide +kernel⟩, List.mem_of_getElem? (i := 788) (by decide +kernel), List.mem_of_getElem? (i := 1030) (by decide +kernel), List.mem_of_getElem? (i := 1031) (by decide +kernel)⟩
theorem lw_p54 : lw_okq (⟨"PairedTumblersModel", "period", "()I"⟩, 21) := ⟨⟨by decide +kernel, by decide +kernel⟩, List.mem_of_getElem? (i := 788) (by decide +kernel), List.mem_of_getElem? (i := 1034) (by decide +kernel), List.mem_of_getElem? (i := 1035) (by decide +kernel)⟩
theorem lw_p55 : lw_okq (⟨"PairedTumblersModel", "putBack", "()V"⟩, 21) := ⟨⟨by decide +kernel, by decide +kernel⟩, List.mem_of_getElem? (i := 788) (by decide +kernel), List.mem_of_getElem? (i := 1041) (by decide +kernel), List.mem_of_getElem? (i := 1042) (by decide +kernel)⟩
theorem lw_p56 : lw_okq (⟨"PairedTumblersModel", "pairNow", "(III)I"⟩, 21) := ⟨⟨by decide +kernel, by decide +kernel⟩, List.mem_of_getElem? (i := 788) (by decide +kernel), List.mem_of_getElem? (i := 1049) (by decide +kernel), List.mem_of_getElem? (i := 1050) (by decide +kernel)⟩
theorem lw_p57 : lw_okq (⟨"PairedTumblersModel", "reach", "()I"⟩, 21) := ⟨⟨by decide +kernel, by decide +kernel⟩, List.mem_of_getElem? (i := 788) (by decide +kernel), List.mem_of_getElem? (i := 1053) (by decide +kernel), List.mem_of_getElem? (i := 1054) (by decide +kernel)⟩
theorem lw_p58 : lw_okq (⟨"PairedTumblersModel", "wordNow", "(I)I"⟩, 21) := ⟨⟨by decide +kernel, by decide +kernel⟩, List.mem_of_getElem? (i := 788) (by decide +kernel), List.mem_of_getElem? (i := 1061) (by decide +kernel), List.mem_of_getElem? (i := 1062) (by decide +kernel)⟩
theorem lw_p59 : lw_okq (⟨"PairedTumblersModel", "countTurns", "()I"⟩, 21) := ⟨⟨by decide +kernel, by decide +kernel⟩, List.mem_of_getElem? (i := 788) (by decide +kernel), List.mem_of_getElem? (i := 1065) (by decide +kernel), List.mem_of_getElem? (i := 1066) (by decide +kernel)⟩
theorem lw_p60 : lw_okq (⟨"PairedTumblersModel", "countNow", "(I)I"⟩, 21) := ⟨⟨by decide +kernel, by decide +kernel⟩, List.mem_of_getElem? (i := 788) (by decide +kernel), List.mem_of_getElem? (i := 1073) (by decide +kernel), List.mem_of_getElem? (i := 1074) (by decide +kernel)⟩
theorem lw_p61 : lw_okq (⟨"PairedTumblersModel", "stuckPlaces", "()I"⟩, 21) := ⟨⟨by decide +kernel, by decide +kernel⟩, List.mem_of_getElem? (i := 788) (by decide +kernel), List.mem_of_getElem? (i := 1077) (by decide +kernel), List.mem_of_getElem? (i := 1078) (by decide +kernel)⟩
theorem lw_p62 : lw_okq (⟨"PairedTumblersModel", "findOpen", "(I)I"⟩, 21) := ⟨⟨by decide +kernel, by decide +kernel⟩, List.mem_of_getElem? (i := 788) (by decide +kernel), List.mem_of_getElem? (i := 1085) (by decide +kernel), List.mem_of_getElem? (i := 1086) (by decide +kernel)⟩
theorem lw_p63 : lw_okq (⟨"PairedTumblersModel", "opensBy", "(II)Z"⟩, 21) := ⟨⟨by decide +kernel, by decide +kernel⟩, List.mem_of_getElem? (i := 788) (by decide +kernel), List.mem_of_getElem? (i := 1092) (by decide +kernel), List.mem_of_getElem? (i := 1093) (by decide +kernel)⟩
def lw_privs_4 : List (MethodName × Nat) := [(⟨"PairedTumblersModel", "notches", "()I"⟩, 21), (⟨"PairedTumblersModel", "atNow", "(II)I"⟩, 21), (⟨"PairedTumblersModel", "keysAt", "(I)I"⟩, 21), (⟨"PairedTumblersModel", "keyNow", "(II)I"⟩, 21), (⟨"PairedTumblersModel", "keyPeriod", "(I)I"⟩, 21), (⟨"PairedTumblersModel", "putAside", "()V"⟩, 21), (⟨"PairedTumblersModel", "period", "()I"⟩, 21), (⟨"PairedTumblersModel", "putBack", "()V"⟩, 21), (⟨"PairedTumblersModel", "pairNow", "(III)I"⟩, 21), (⟨"PairedTumblersModel", "reach", "()I"⟩, 21), (⟨"PairedTumblersModel", "wordNow", "(I)I"⟩, 21), (⟨"PairedTumblersModel", "countTurns", "()I"⟩, 21), (⟨"PairedTumblersModel", "countNow", "(I)I"⟩, 21), (⟨"PairedTumblersModel", "stuckPlaces", "()I"⟩, 21), (⟨"PairedTumblersModel", "findOpen", "(I)I"⟩, 21), (⟨"PairedTumblersModel", "opensBy", "(II)Z"⟩, 21)]
theorem lw_r4 : ∀ q ∈ lw_privs_4, lw_okq q := List.forall_mem_cons.mpr ⟨lw_p48, List.forall_mem_cons.mpr ⟨lw_p49, List.forall_mem_cons.mpr ⟨lw_p50, List.forall_mem_cons.mpr ⟨lw_p51, List.forall_mem_cons.mpr ⟨lw_p52, List.forall_mem_cons.mpr ⟨lw_p53, List.forall_mem_cons.mpr ⟨lw_p54, List.forall_mem_cons.mpr ⟨lw_p55, List.forall_mem_cons.mpr ⟨lw_p56, List.forall_mem_cons.mpr ⟨lw_p57, List.forall_mem_cons.mpr ⟨lw_p58, List.forall_mem_cons.mpr ⟨lw_p59, List.forall_mem_cons.mpr ⟨lw_p60, List.forall_mem_cons.mpr ⟨lw_p61, List.forall_mem_cons.mpr ⟨lw_p62, List.forall_mem_cons.mpr ⟨lw_p63, fun _ h => absurd h List.not_mem_nil⟩⟩⟩⟩⟩⟩⟩⟩⟩⟩⟩⟩⟩⟩⟩⟩
theorem lw_p64 : lw_okq (⟨"PairedTumblersModel", "rightIf", "(II)I"⟩, 21) := ⟨⟨by decide +kernel, by decide +kernel⟩, List.mem_of_getElem? (i := 788) (by decide +kernel), List.mem_of_getElem? (i := 1100) (by decide +kernel), List.mem_of_getElem? (i := 1101) (by decide +kernel)⟩
theorem lw_p65 : lw_okq (⟨"PairedTumblersModel", "findClosest", "()I"⟩, 21) := ⟨⟨by decide +kernel, by decide +kernel⟩, List.mem_of_getElem? (i := 788) (by decide +kernel), List.mem_of_getElem? (i := 1108) (by decide +kernel), List.mem_of_getElem? (i := 1109) (by decide +kernel)⟩
def lw_privs_5 : List (MethodName × Nat) := [(⟨"PairedTumblersModel", "rightIf", "(II)I"⟩, 21), (⟨"PairedTumblersModel", "findClosest", "()I"⟩, 21)]
theorem lw_r5 : ∀ q ∈ lw_privs_5, lw_okq q := List.forall_mem_cons.mpr ⟨lw_p64, List.forall_mem_cons.mpr ⟨lw_p65, fun _ h => absurd h List.not_mem_nil⟩⟩
def lw_privs : List (MethodName × Nat) := lw_privs_1 ++ (lw_privs_2 ++ (lw_privs_3 ++ (lw_privs_4 ++ (lw_privs_5))))
def lw_tbl : List Cond := k2_sels lw_privs ++ tables_1
theorem lw_privs_ok : ∀ q ∈ lw_privs, lw_okq q := by
  show ∀ q ∈ lw_privs_1 ++ (lw_privs_2 ++ (lw_privs_3 ++ (lw_privs_4 ++ (lw_privs_5)))), lw_okq q
  exact List.forall_mem_append.mpr ⟨lw_r1, List.forall_mem_append.mpr ⟨lw_r2, List.forall_mem_append.mpr ⟨lw_r3, List.forall_mem_append.mpr ⟨lw_r4, lw_r5⟩⟩⟩⟩
/-- the streams that the claim lets the run draw from -/
abbrev lw_cs : List Choice := [Jvm.Choice.named "NaN.bits"]
theorem lw_bits : nanBits ∈ lw_cs := by first | decide | exact List.mem_cons_self | simp [lw_cs, nanBits]

/-- the words that every method may rest on, in one list -/
def lw_all : List Cond := lw_tbl.filter goodWord
theorem lw_all_tbl {w : Cond} (h : w ∈ lw_all) : w ∈ lw_tbl := (List.mem_filter.mp h).1
theorem lw_all_good {w : Cond} (h : w ∈ lw_all) : goodWord w = true := (List.mem_filter.mp h).2
theorem lw_inT {w : Cond} (h : w ∈ tables_1) (g : goodWord w = true) : w ∈ lw_all := List.mem_filter.mpr ⟨List.mem_append_right _ h, g⟩
theorem lw_inS {w : Cond} (h : w ∈ k2_sels lw_privs) (g : goodWord w = true) : w ∈ lw_all := List.mem_filter.mpr ⟨List.mem_append_left _ h, g⟩
theorem lw_T1 {w : Cond} (h : w ∈ tables_1_1) : w ∈ tables_1 := List.mem_append_left _ h
theorem lw_T2 {w : Cond} (h : w ∈ tables_1_2) : w ∈ tables_1 := List.mem_append_right _ (List.mem_append_left _ h)
theorem lw_T3 {w : Cond} (h : w ∈ tables_1_3) : w ∈ tables_1 := List.mem_append_right _ (List.mem_append_right _ (List.mem_append_left _ h))
theorem lw_T4 {w : Cond} (h : w ∈ tables_1_4) : w ∈ tables_1 := List.mem_append_right _ (List.mem_append_right _ (List.mem_append_right _ (List.mem_append_left _ h)))
theorem lw_T5 {w : Cond} (h : w ∈ tables_1_5) : w ∈ tables_1 := List.mem_append_right _ (List.mem_append_right _ (List.mem_append_right _ (List.mem_append_right _ h)))
theorem lw_in1 {w : Cond} (h : w ∈ tables_1_1) (g : goodWord w = true) : w ∈ lw_all := lw_inT (lw_T1 h) g
theorem lw_in2 {w : Cond} (h : w ∈ tables_1_2) (g : goodWord w = true) : w ∈ lw_all := lw_inT (lw_T2 h) g
theorem lw_in3 {w : Cond} (h : w ∈ tables_1_3) (g : goodWord w = true) : w ∈ lw_all := lw_inT (lw_T3 h) g
theorem lw_in4 {w : Cond} (h : w ∈ tables_1_4) (g : goodWord w = true) : w ∈ lw_all := lw_inT (lw_T4 h) g
theorem lw_in5 {w : Cond} (h : w ∈ tables_1_5) (g : goodWord w = true) : w ∈ lw_all := lw_inT (lw_T5 h) g
/-- words that hold of the tables but are warmed by laws of their own: nest mates' links, castable, declares -/
def lw_isNw : Cond → Bool
  | .methodLinkNest .. | .fieldLinkNest .. | .castable .. | .declares .. => true
  | _ => false
def lw_nw : List Cond := tables_1.filter lw_isNw
theorem lw_ninT {w : Cond} (h : w ∈ tables_1) (g : lw_isNw w = true) : w ∈ lw_nw := List.mem_filter.mpr ⟨h, g⟩
theorem lw_nin1 {w : Cond} (h : w ∈ tables_1_1) (g : lw_isNw w = true) : w ∈ lw_nw := lw_ninT (lw_T1 h) g
theorem lw_nin2 {w : Cond} (h : w ∈ tables_1_2) (g : lw_isNw w = true) : w ∈ lw_nw := lw_ninT (lw_T2 h) g
theorem lw_nin3 {w : Cond} (h : w ∈ tables_1_3) (g : lw_isNw w = true) : w ∈ lw_nw := lw_ninT (lw_T3 h) g
theorem lw_nin4 {w : Cond} (h : w ∈ tables_1_4) (g : lw_isNw w = true) : w ∈ lw_nw := lw_ninT (lw_T4 h) g
theorem lw_nin5 {w : Cond} (h : w ∈ tables_1_5) (g : lw_isNw w = true) : w ∈ lw_nw := lw_ninT (lw_T5 h) g
end
section
/-! ===== BEGIN words of one list among another's, by their places ===== -/
theorem goodIn_r {big : List Cond} (ws : List Cond) (ps : List Nat) (hp : ws = ps.filterMap (fun i => big[i]?)) (h : ws.all goodWord = true) : GoodIn big ws := by
  intro w hw
  have h1 := List.all_eq_true.mp h w hw
  rw [hp] at hw
  obtain ⟨i, -, hi⟩ := List.mem_filterMap.mp hw
  have hm : w ∈ big := by first | exact List.mem_of_getElem? hi | exact List.getElem?_mem hi
  exact ⟨hm, good_of_word h1⟩
theorem goodIn_app {big a b : List Cond} (ha : GoodIn big a) (hb : GoodIn big b) : GoodIn big (a ++ b) := fun w h => (List.mem_append.mp h).elim (ha w) (hb w)
theorem goodIn_ca {big a b : List Cond} {c : Cond} (ha : GoodIn big (c :: a)) (hb : GoodIn big b) : GoodIn big (c :: (a ++ b)) := fun w h => (List.mem_cons.mp h).elim (fun e => ha w (List.mem_cons.mpr (Or.inl e))) (fun h => (List.mem_append.mp h).elim (fun h => ha w (List.mem_cons.mpr (Or.inr h))) (hb w))
theorem goodIn_sub {big ws : List Cond} (hm : ∀ w ∈ ws, w ∈ big) (h : ws.all goodWord = true) : GoodIn big ws := fun w hw => ⟨hm w hw, good_of_word (List.all_eq_true.mp h w hw)⟩
/-! ===== END ===== -/

/-! ===== BEGIN exceptions that leave a method, and their catching by the caller (launches without stack traces) ===== -/
section VXA
/-! The laws vx_back, vx_callV, vx_callS, vx_callSW, vx_throw0, vx_throwS follow proofs of the library, with one case more: JvmDerived/Free/Laws.lean (Back.of_free), Shelf42/LK1.lean (callV, callS), Shelf/KitTraced.lean (throwNew0V, throwNewS). -/
/-- where a method has thrown q: the class by its name, the cell, what was written, the world -/
def vx_T (XC : String → State → State → Prop) (st : State) (q : Addr) (t : State) (mc ms : Nat) (free : Addr → Prop) : Prop :=
  ∃ (E : String) (ce : Cell) (L : List Loc), XC E st t ∧ t.heap[q]? = some ce ∧ ce.vm = .none ∧ st.vm.findClass E = some ce.cls ∧ st.WarmedH t.vm ∧ st.sameButNew ({ t with vm := st.vm } : State) L mc ms ∧ ∀ z ∈ L, free z.base
def vx_Q (Qc : Array Value → State → Outcome → State → Prop) (XC : String → State → State → Prop) (mc ms : Nat) (free : Addr → Prop) : Array Value → State → Outcome → State → Prop := fun a st o t =>
  (Qc a st o t ∧ ∃ L, FrameEnd st o t L mc ms ∧ ∀ q ∈ L, free q.base) ∨ ∃ q, o = .threw q ∧ vx_T XC st q t mc ms free
/-- a callee that returns or throws -/
def vx_Met (l : Launch) (y : MethodName) (ws : List Cond) (rm : Room) (Pc : Array Value → State → Prop) (Qc : Array Value → State → Outcome → State → Prop) (XC : String → State → State → Prop) (mc ms : Nat) (free : Addr → Prop) : Prop :=
  MetFree l y (headSpec ws rm) Pc (fun _ _ _ _ _ => True) (vx_Q Qc XC mc ms free)
def vx_Post (XC : String → State → State → Prop) (mc ms : Nat) (free : Addr → Prop) : Pt → Array Value → Addr → Pt → Prop := fun A a q B =>
  ∃ (g : JFrame) (mk : MethodId) (t : State) (L : List Loc) (E : String) (ce : Cell), B.U.heap = t.heap ∧ B.U.vm = t.vm ∧ XC E (A.U.calling g mk a) t ∧ t.heap[q]? = some ce ∧ ce.vm = .none ∧ A.U.vm.findClass E = some ce.cls ∧ B.locs = A.locs ++ L ∧ (∀ z ∈ L, free z.base) ∧ B.cells = A.cells + mc ∧ B.slots = A.slots + ms
def vx_Back (l : Launch) (R : Room) (p : Program) (e : Env) (below : List Frame) (s : State) (sargs : Array Value) (y : MethodName) (len W9 : Nat)
    (Pre : Pt → Array Value → Prop) (Post : Pt → Array Value → Option Value → Pt → Prop) (PostX : Pt → Array Value → Addr → Pt → Prop) : Prop :=
  ∀ (m : MethodId) (meth : Method) (c : Code) (A : Pt) (g : JFrame) (ig : Instr) (mk : MethodId) (a : Array Value),
    Stand p l e R s m sargs below meth c A.U A.locs A.cells A.slots → g.method = m → g.locals.size = c.maxLocals → decode c.code g.pc = .ok (ig, len) →
    2 * g.monitorRoom + (g.stack.map fun v => v.category).sum ≤ W9 → A.U.methodNamed? y = some mk → Pre A a →
    (∃ (v : Option Value) (B : Pt), Stand p l e R s m sargs below meth c B.U B.locs B.cells B.slots ∧ Post A a v B ∧
      Steps p.tables e below (doInvoke e (A.U.setTop g) [] mk a).1 (B.U.setTop { g with pc := g.pc + len, stack := v.toList ++ g.stack })) ∨
    (∃ (q : Addr) (B : Pt), Stand p l e R s m sargs below meth c B.U B.locs B.cells B.slots ∧ PostX A a q B ∧
      Steps p.tables e below (doInvoke e (A.U.setTop g) [] mk a).1 ((B.U.setTop g).pushFrame (.throwing q)))
section Payer
variable {l : Launch} {R : Room} {p : Program} {e : Env} {below : List Frame} {s : State} {sargs : Array Value} {y : MethodName} {len W9 : Nat}
theorem vx_back {ws : List Cond} {rm : Room} {Pc : Array Value → State → Prop} {Qc : Array Value → State → Outcome → State → Prop} {XC : String → State → State → Prop} {mc ms : Nat} {free : Addr → Prop} {bytes : ByteArray} {maxL : Nat} {ret : Option FieldType}
    (hM : vx_Met l y ws rm Pc Qc XC mc ms free) (hblind : FrameBlind Pc) (hrc : rm.cells = mc) (hrs : rm.slots = ms)
    (hframes : rm.frames + 1 ≤ R.frames) (hlocals : W9 + (maxL + 11) + rm.locals ≤ R.locals)
    (hws : ∀ w ∈ ws, ∀ a' U, s.WarmedH U.vm → w.before a' U = true) (hcode : Cond.code y bytes maxL ret ∈ ws) (hinit : ∀ a' U, s.WarmedH U.vm → (Cond.initialized y.cls).before a' U = true) :
    vx_Back l R p e below s sargs y len W9 (PreOf R mc ms Pc) (PostOf Qc mc ms free) (vx_Post XC mc ms free) := by
  intro m meth c A g ig mk a X hg hsize hdg hW hn hp
  have h1 : (headSpec ws rm).pre.before a A.U = true := atoms_intro fun w hw => hws w hw _ _ X.warmed
  have h2 : (Cond.code y bytes maxL ret).before a A.U = true := hws _ hcode _ _ X.warmed
  have h3 : (Cond.initialized y.cls).before a A.U = true := hinit _ _ X.warmed
  have h4 : A.cells + (headSpec ws rm).room.cells ≤ R.cells := by rw [show (headSpec ws rm).room.cells = mc from hrc]; exact hp.1
  have h5 : A.slots + (headSpec ws rm).room.slots ≤ R.slots := by rw [show (headSpec ws rm).room.slots = ms from hrs]; exact hp.2.1
  have hPc : Pc a (A.U.calling g mk a) := hblind _ _ _ _ hp.2.2
  obtain ⟨U, Ls, c0, s0⟩ := A
  dsimp only [Pt.U, Pt.locs, Pt.cells, Pt.slots] at h1 h2 h3 h4 h5 X hn hPc ⊢
  obtain ⟨methY, cY, hmY, hcY, -, hlY, -, -, -, -⟩ := Cond.code_spec hn h2
  obtain ⟨kY, hkY, -⟩ := className_of_methodNamed hn
  have hinitY : kY.init = .initialized := Cond.initialized_spec (findClass_of_methodNamed hn) hkY h3
  have h : At U g.method c below := by rw [hg]; exact X.here
  have hlocals9 : W9 + (maxL + 11) + (headSpec ws rm).room.locals ≤ R.locals := hlocals
  have happ : (headSpec ws rm).appliesLoose y e.platform (U.calling g mk a) = true :=
    Spec.appliesLoose_calling (g := g) h hdg hn hkY hinitY
      (X.room_calling (g := g) (R' := (headSpec ws rm).room) hsize hmY hcY hframes (by rw [hlY]; omega) h4 h5) h1
  obtain ⟨mid, hmid⟩ := h.above
  have hfr : (U.setTop g).frames = (.java g :: mid) ++ below := by rw [State.frames_setTop' g h.top, hmid]; rfl
  obtain ⟨o, s₂, hsteps, -, hend, hq⟩ := Steps.callFree hM p X.admits X.cas X.clock (acts := []) hfr happ hPc trivial
  have hq' : vx_Q Qc XC mc ms free a (U.calling g mk a) o s₂ := hq
  rw [State.frames_setTop' g h.top] at hend
  obtain ⟨g₀, hg0⟩ := Option.isSome_iff_exists.mp h.top
  obtain ⟨r, hr⟩ := State.topJava?_eq_some.mp hg0
  have hr' : (({ U with heap := s₂.heap, slotsUsed := s₂.slotsUsed } : State).setVm s₂.vm).frames = .java g₀ :: r := hr
  rcases hq' with ⟨hqc, L, hfe, hL⟩ | ⟨q, rfl, E, ce, L, hx, hce, hcv, hcl, hW₂, hsm, hL⟩
  · obtain ⟨⟨v, rfl⟩, hW₂, e2, q2, q3, q4, q5, q6⟩ := id hfe
    have e3 : s₂ = ({ (U.calling g mk a).setFrames s₂.frames with heap := s₂.heap, slotsUsed := s₂.slotsUsed } : State).setVm s₂.vm := by
      have : s₂ = ({ s₂ with vm := (U.calling g mk a).vm } : State).setVm s₂.vm := rfl
      rw [e2] at this
      exact this
    obtain ⟨c₂, i₂, len₂, hc₂, hd₂, hf₂⟩ := hend
    have hW' : U.WarmedH s₂.vm := hW₂
    have hcc : c₂ = c := by
      have h1 : s₂.code? g.method = U.code? g.method := by
        rw [State.code?_eq, State.code?_eq, hW'.alike.method?]
      exact Option.some.inj (hc₂.symm.trans (h1.trans h.code))
    subst hcc
    have hlen : len₂ = len := by rw [hdg] at hd₂; cases hd₂; rfl
    subst hlen
    have hs₂ : s₂ = (({ U with heap := s₂.heap, slotsUsed := s₂.slotsUsed } : State).setVm s₂.vm).setTop { g with pc := g.pc + len₂, stack := v.toList ++ g.stack } := by
      refine e3.trans ?_
      rw [hf₂, State.calling_eq h.top, State.setFrames_setFrames, State.setTop_of_frames _ hr', hr]
      rfl
    have hsame : U.sameButNew ({ U with heap := s₂.heap, slotsUsed := s₂.slotsUsed } : State) L mc ms := by
      refine ⟨?_, q2, q3, q4, q5, q6⟩
      obtain ⟨t, ht, -⟩ := State.frames_cons hr
      show ({ U with heap := s₂.heap, slotsUsed := s₂.slotsUsed } : State) = { U.setFrames U.frames with heap := s₂.heap, slotsUsed := s₂.slotsUsed }
      rw [State.setFrames_self ht]
    subst hg
    refine Or.inl ⟨v, ⟨(({ U with heap := s₂.heap, slotsUsed := s₂.slotsUsed } : State).setVm s₂.vm), Ls ++ L, c0 + mc, s0 + ms⟩,
      ⟨X.admits, X.cas, X.clock, X.frames, X.room, X.hears, X.method, X.code, (X.here.setHeapUsed s₂.heap s₂.slotsUsed).setVm hW'.alike, X.tail, State.WarmedH.trans X.warmed hW', X.limits, X.bytes, X.same.trans (hsame.setVm s.vm)⟩,
      ⟨g, mk, s₂, L, rfl, rfl, hqc, rfl, hL, rfl, rfl⟩, ?_⟩
    show Steps p.tables e below _ ((({ U with heap := s₂.heap, slotsUsed := s₂.slotsUsed } : State).setVm s₂.vm).setTop { g with pc := g.pc + len₂, stack := v.toList ++ g.stack })
    rw [← hs₂]
    exact hsteps
  · obtain ⟨e2, q2, q3, q4, q5, q6⟩ := id hsm
    have e3 : s₂ = ({ (U.calling g mk a).setFrames s₂.frames with heap := s₂.heap, slotsUsed := s₂.slotsUsed } : State).setVm s₂.vm := by
      have : s₂ = ({ s₂ with vm := (U.calling g mk a).vm } : State).setVm s₂.vm := rfl
      rw [e2] at this
      exact this
    have hf₂ : s₂.frames = .throwing q :: .java g :: U.frames.tail := hend
    have hW' : U.WarmedH s₂.vm := hW₂
    have hs₂ : s₂ = ((({ U with heap := s₂.heap, slotsUsed := s₂.slotsUsed } : State).setVm s₂.vm).setTop g).pushFrame (.throwing q) := by
      refine e3.trans ?_
      rw [hf₂, State.calling_eq h.top, State.setFrames_setFrames, State.pushFrame, State.frames_setTop _ hr', State.setTop_of_frames _ hr', State.setFrames_setFrames, hr]
      rfl
    have hsame : U.sameButNew ({ U with heap := s₂.heap, slotsUsed := s₂.slotsUsed } : State) L mc ms := by
      refine ⟨?_, q2, q3, q4, q5, q6⟩
      obtain ⟨t, ht, -⟩ := State.frames_cons hr
      show ({ U with heap := s₂.heap, slotsUsed := s₂.slotsUsed } : State) = { U.setFrames U.frames with heap := s₂.heap, slotsUsed := s₂.slotsUsed }
      rw [State.setFrames_self ht]
    subst hg
    refine Or.inr ⟨q, ⟨(({ U with heap := s₂.heap, slotsUsed := s₂.slotsUsed } : State).setVm s₂.vm), Ls ++ L, c0 + mc, s0 + ms⟩,
      ⟨X.admits, X.cas, X.clock, X.frames, X.room, X.hears, X.method, X.code, (X.here.setHeapUsed s₂.heap s₂.slotsUsed).setVm hW'.alike, X.tail, State.WarmedH.trans X.warmed hW', X.limits, X.bytes, X.same.trans (hsame.setVm s.vm)⟩,
      ⟨g, mk, s₂, L, E, ce, rfl, rfl, hx, hce, hcv, hcl, rfl, hL, rfl, rfl⟩, ?_⟩
    show Steps p.tables e below _ (((({ U with heap := s₂.heap, slotsUsed := s₂.slotsUsed } : State).setVm s₂.vm).setTop g).pushFrame (.throwing q))
    rw [← hs₂]
    exact hsteps
end Payer
section Calls
variable {p : Program} {l : Launch} {e : Env} {R : Room} {s : State} {m : MethodId} {args : Array Value} {below : List Frame} {meth : Method} {c : Code} {T : State} {locs : List Loc} {cells slots : Nat}
theorem vx_callV (X : Stand p l e R s m args below meth c T locs cells slots) (hexec : p.tables.exec = Jvm.exec) {own C : String} {index : Nat} {y : MethodName} {bytes : ByteArray} {maxL : Nat} {ret : Option FieldType}
    (hown : s.vm.findClass own = some m.cls) (hlink : (Cond.methodLink own index y).before args s = true) (hinst : (Cond.instanceMethod y).before args s = true) (hsel : (Cond.selects C y y).before args s = true)
    (hcode : (Cond.code y bytes maxL ret).before args s = true) (hy : y.cls ≠ "java/lang/invoke/MethodHandle" ∧ y.cls ≠ "java/lang/invoke/VarHandle")
    {W9 : Nat} {Pre : Pt → Array Value → Prop} {Post : Pt → Array Value → Option Value → Pt → Prop} {PostX : Pt → Array Value → Addr → Pt → Prop} (hK : vx_Back l R p e below s args y 3 W9 Pre Post PostX)
    {b : Addr} {cellB : Cell} (hcell : T.heap[b]? = some cellB) (hobj : cellB.vm.isStatics = false) (hcls : s.vm.findClass C = some cellB.cls)
    {g : JFrame} (hg : g.method = m) (hsize : g.locals.size = c.maxLocals) {argsL rest : List Value} (hlen : ∀ sig, parseMethodDescriptor y.desc = some sig → argsL.length = sig.parameters.length)
    (hstack : g.stack = argsL.reverse ++ .ref b :: rest) (hW : 2 * g.monitorRoom + (rest.map fun v => v.category).sum ≤ W9) (hdg : decode c.code g.pc = .ok (.invokevirtual index, 3))
    (hpre : ∀ vm₁, s.WarmedH vm₁ → Pre ⟨T.setVm vm₁, locs, cells, slots⟩ (Value.ref b :: argsL).toArray) :
    (∃ (v : Option Value) (vm₁ : Vm) (B : Pt), s.WarmedH vm₁ ∧ Stand p l e R s m args below meth c B.U B.locs B.cells B.slots ∧ Post ⟨T.setVm vm₁, locs, cells, slots⟩ (Value.ref b :: argsL).toArray v B ∧
      ∀ target, Steps p.tables e below (B.U.setTop { g with pc := g.pc + 3, stack := v.toList ++ rest }) target → Steps p.tables e below (T.setTop g) target) ∨
    (∃ (q : Addr) (vm₁ : Vm) (B : Pt), s.WarmedH vm₁ ∧ Stand p l e R s m args below meth c B.U B.locs B.cells B.slots ∧ PostX ⟨T.setVm vm₁, locs, cells, slots⟩ (Value.ref b :: argsL).toArray q B ∧
      Steps p.tables e below (T.setTop g) ((B.U.setTop { g with stack := rest }).pushFrame (.throwing q))) := by
  obtain ⟨mk, methM, hnamed, hmethM, hstM, habM⟩ := Cond.instanceMethod_spec hinst
  obtain ⟨methM', cM, hmethM', -, -, -, -, -, -, hsigM⟩ := Cond.code_spec hnamed hcode
  cases hmethM.symm.trans hmethM'
  obtain ⟨c2, r2, m2, q1, q2, q3, q4, kP, hkP, hkPi⟩ := Cond.selects_spec hsel
  cases hcls.symm.trans q1
  cases (State.methodFound?_of_named hnamed hy).symm.trans q2
  cases hnamed.symm.trans q3
  have hselP : selectMethod e.platform s.vm cellB.cls mk = .method mk := by rw [Launch.admits_selectMethod X.admits]; exact q4
  obtain ⟨vm₁, X₁, hstep₁⟩ := X.invokevirtual hexec hown hlink hnamed hmethM hstM hkP hkPi hy (a := b) (cell := cellB) hcell
    (fun z h => by rw [h] at hobj; cases hobj) hselP hmethM habM hkP hkPi (g := g) hg (argsL := argsL) (rest := rest) (hlen _ hsigM) hstack hdg
  rcases hK m meth c ⟨T.setVm vm₁, locs, cells, slots⟩ { g with stack := rest } (.invokevirtual index) mk (Value.ref b :: argsL).toArray X₁ hg hsize hdg hW (X₁.named hnamed) (hpre vm₁ X₁.warmed) with ⟨v, B, X', hpost, hsteps⟩ | ⟨q, B, X', hpost, hsteps⟩
  · exact Or.inl ⟨v, vm₁, B, X₁.warmed, X', hpost, fun target h => hstep₁ _ fun acts => by rw [doInvoke_state]; exact hsteps.trans h⟩
  · exact Or.inr ⟨q, vm₁, B, X₁.warmed, X', hpost, hstep₁ _ fun acts => by rw [doInvoke_state]; exact hsteps⟩
theorem vx_callS (X : Stand p l e R s m args below meth c T locs cells slots) (hexec : p.tables.exec = Jvm.exec) {own : String} {index : Nat} {y : MethodName} {bytes : ByteArray} {maxL : Nat} {ret : Option FieldType}
    (hown : s.vm.findClass own = some m.cls) (hlink : (Cond.methodLink own index y).before args s = true) (hstat : (Cond.static y).before args s = true) (hinit : (Cond.initialized y.cls).before args s = true)
    (hcode : (Cond.code y bytes maxL ret).before args s = true) (hy : y.cls ≠ "java/lang/invoke/MethodHandle" ∧ y.cls ≠ "java/lang/invoke/VarHandle")
    {W9 : Nat} {Pre : Pt → Array Value → Prop} {Post : Pt → Array Value → Option Value → Pt → Prop} {PostX : Pt → Array Value → Addr → Pt → Prop} (hK : vx_Back l R p e below s args y 3 W9 Pre Post PostX)
    {g : JFrame} (hg : g.method = m) (hsize : g.locals.size = c.maxLocals) {argsL rest : List Value} (hlen : ∀ sig, parseMethodDescriptor y.desc = some sig → argsL.length = sig.parameters.length)
    (hstack : g.stack = argsL.reverse ++ rest) (hW : 2 * g.monitorRoom + (rest.map fun v => v.category).sum ≤ W9) (hdg : decode c.code g.pc = .ok (.invokestatic index, 3))
    (hpre : ∀ vm₁, s.WarmedH vm₁ → Pre ⟨T.setVm vm₁, locs, cells, slots⟩ argsL.toArray) :
    (∃ (v : Option Value) (vm₁ : Vm) (B : Pt), s.WarmedH vm₁ ∧ Stand p l e R s m args below meth c B.U B.locs B.cells B.slots ∧ Post ⟨T.setVm vm₁, locs, cells, slots⟩ argsL.toArray v B ∧
      ∀ target, Steps p.tables e below (B.U.setTop { g with pc := g.pc + 3, stack := v.toList ++ rest }) target → Steps p.tables e below (T.setTop g) target) ∨
    (∃ (q : Addr) (vm₁ : Vm) (B : Pt), s.WarmedH vm₁ ∧ Stand p l e R s m args below meth c B.U B.locs B.cells B.slots ∧ PostX ⟨T.setVm vm₁, locs, cells, slots⟩ argsL.toArray q B ∧
      Steps p.tables e below (T.setTop g) ((B.U.setTop { g with stack := rest }).pushFrame (.throwing q))) := by
  obtain ⟨mk, hnamed⟩ := Cond.code_named hcode
  obtain ⟨methM, cM, hmethM, -, -, -, -, -, -, hsigM⟩ := Cond.code_spec hnamed hcode
  have hstatic : methM.isStatic = true := Cond.static_spec hnamed hmethM hstat
  obtain ⟨kP, hkP, -⟩ := className_of_methodNamed hnamed
  have hinitP : kP.init = .initialized := Cond.initialized_spec (findClass_of_methodNamed hnamed) hkP hinit
  obtain ⟨vm₁, X₁, hstep₁⟩ := X.invokestatic hexec hown hlink hnamed hmethM hstatic hkP hinitP hy (g := g) hg (argsL := argsL) (rest := rest) (hlen _ hsigM) hstack hdg
  rcases hK m meth c ⟨T.setVm vm₁, locs, cells, slots⟩ { g with stack := rest } (.invokestatic index) mk argsL.toArray X₁ hg hsize hdg hW (X₁.named hnamed) (hpre vm₁ X₁.warmed) with ⟨v, B, X', hpost, hsteps⟩ | ⟨q, B, X', hpost, hsteps⟩
  · exact Or.inl ⟨v, vm₁, B, X₁.warmed, X', hpost, fun target h => hstep₁ _ fun acts => by rw [doInvoke_state]; exact hsteps.trans h⟩
  · exact Or.inr ⟨q, vm₁, B, X₁.warmed, X', hpost, hstep₁ _ fun acts => by rw [doInvoke_state]; exact hsteps⟩
end Calls
theorem vx_cls {s : State} {T : State} {vm₁ : Vm} {E : String} {k : ClassId} (hW : s.WarmedH vm₁) (h : (T.setVm vm₁).vm.findClass E = some k) : s.vm.findClass E = some k := by
  have h1 : vm₁.findClass E = some k := h
  rw [hW.alike.findClass] at h1
  exact h1
/-- the method's frame g, with q thrown over it -/
def vx_W (p : Program) (l : Launch) (e : Env) (R : Room) (s : State) (m : MethodId) (args : Array Value) (below : List Frame) (meth : Method) (c : Code) (H : Heap) (locs : List Loc) (cells slots : Nat) (Q : State → Prop) (g : JFrame) (q : Addr) : Prop :=
  ∀ T : State, T.heap = H → Stand p l e R s m args below meth c T locs cells slots → ∃ t, Steps p.tables e below ((T.setTop g).pushFrame (.throwing q)) t ∧ Q t
def vx_Run (p : Program) (l : Launch) (e : Env) (R : Room) (s : State) (m : MethodId) (args : Array Value) (below : List Frame) (meth : Method) (c : Code) (H : Heap) (locs : List Loc) (cells slots mc ms : Nat) (g : JFrame) (rest : List Value) (Qa : State → Outcome → State → Prop) (XC : String → State → State → Prop) (free : Addr → Prop) : Prop :=
  ∀ T : State, T.heap = H → Stand p l e R s m args below meth c T locs cells slots →
    (∃ (v : Option Value) (st₀ t T' : State) (L : List Loc), st₀.heap = H ∧ Stand p l e R s m args below meth c T' (locs ++ L) (cells + mc) (slots + ms) ∧ (∀ q ∈ L, free q.base) ∧ T'.heap = t.heap ∧ T'.vm = t.vm ∧ Qa st₀ (.returned v) t ∧
      Goes p e below T g T' { g with pc := g.pc + 3, stack := v.toList ++ rest }) ∨
    (∃ (q : Addr) (st₀ t T' : State) (L : List Loc) (E : String) (ce : Cell), st₀.heap = H ∧ Stand p l e R s m args below meth c T' (locs ++ L) (cells + mc) (slots + ms) ∧ (∀ z ∈ L, free z.base) ∧ T'.heap = t.heap ∧ T'.vm = t.vm ∧ XC E st₀ t ∧ t.heap[q]? = some ce ∧ ce.vm = .none ∧ s.vm.findClass E = some ce.cls ∧
      Steps p.tables e below (T.setTop g) ((T'.setTop { g with stack := rest }).pushFrame (.throwing q)))
def vx_X {S : Type} (px : S → Prop) (B : String → S → State → Prop) (A : Nat → Prop) : String → State → State → Prop := fun E st t => ∃ u : S, px u ∧ B E u t ∧ va_F A st t
section Runs
variable {p : Program} {l : Launch} {e : Env} {R : Room} {s : State} {m : MethodId} {args : Array Value} {below : List Frame} {meth : Method} {c : Code} {H : Heap} {locs : List Loc} {cells slots : Nat}
variable {y : MethodName} {bytes cc : ByteArray} {maxL nL mc ms n index : Nat} {ret : Option FieldType} {ws : List Cond} {rm : Room} {Pc : Array Value → State → Prop} {Qc : Array Value → State → Outcome → State → Prop} {XC : String → State → State → Prop} {free : Addr → Prop} {Ts : List Cond} {own C : String} {b : Addr} {As rest : List Value} {g : JFrame}
theorem vx_callBack (cb : CallB R s args own index y bytes maxL ret ws rm mc ms n) (hM : vx_Met l y ws rm Pc Qc XC mc ms free) (hbl : FrameBlind Pc) : vx_Back l R p e below s args y 3 8 (PreOf R mc ms Pc) (PostOf Qc mc ms free) (vx_Post XC mc ms free) := by
  obtain ⟨hrc, hrs, hfr, hlo, hws, hcw, -, hini, -⟩ := cb
  exact vx_back (bytes := bytes) (maxL := maxL) (ret := ret) hM hbl hrc hrs hfr hlo hws hcw (fun a' U hW => word_at hW (Or.inl (by first | rfl | simp [Cond.onTables, Cond.keeps, Cond.steady])) hini)
theorem vx_runV (S : CallFix p m c cc nL s args Ts own) (hM : vx_Met l y ws rm Pc Qc XC mc ms free) (cw : CallW R s args own C index y bytes maxL ret ws rm mc ms n) (hp : PreV s H C b Pc As)
    (hg : g.method = m) (hn : As.length = n) (hsize : g.locals.size = nL) (hstack : g.stack = As.reverse ++ .ref b :: rest) (hW : 2 * g.monitorRoom + (rest.map fun v => v.category).sum ≤ 8) (hdg : decode cc g.pc = .ok (.invokevirtual index, 3)) (hf : cells + mc ≤ R.cells ∧ slots + ms ≤ R.slots) :
    vx_Run p l e R s m args below meth c H locs cells slots mc ms g rest (Qc (Value.ref b :: As).toArray) XC free := by
  have hK : vx_Back l R p e below s args y 3 8 (PreOf R mc ms Pc) (PostOf Qc mc ms free) (vx_Post XC mc ms free) := vx_callBack cw.1 hM hp.1
  obtain ⟨⟨-, -, -, -, -, -, hcode, -, hy, hlen, hl⟩, hin, hse⟩ := cw
  obtain ⟨hx, hb, hml, ho, -⟩ := S
  obtain ⟨-, ⟨cellB, hcB, hoB, hclB⟩, hPc⟩ := hp
  intro T hT X
  rcases vx_callV X hx (C := C) (bytes := bytes) (maxL := maxL) (ret := ret) ho hl hin hse hcode hy hK (by rw [hT]; exact hcB) hoB hclB hg (hsize.trans hml.symm) (argsL := As) (rest := rest) (fun sig h => hn.trans (hlen sig h)) hstack hW (by rw [hb]; exact hdg)
    (fun vm₁ hW₁ => ⟨hf.1, hf.2, hPc (T.setVm vm₁) hT hW₁⟩) with ⟨v, vm₁, ⟨U', l2, c2, s2⟩, hW₁, X', ⟨g', mk, t, L, e1, e2, hq, h1, hL, h2, h3⟩, st⟩ | ⟨q, vm₁, ⟨U', l2, c2, s2⟩, hW₁, X', ⟨g', mk, t, L, E, ce, e1, e2, hq, hce, hcv, hcl, h1, hL, h2, h3⟩, st⟩
  · dsimp only [Pt.U, Pt.locs, Pt.cells, Pt.slots] at X' e1 e2 h1 h2 h3 st
    subst h1; subst h2; subst h3
    exact Or.inl ⟨v, (T.setVm vm₁).calling g' mk (Value.ref b :: As).toArray, t, U', L, hT, X', hL, e1, e2, hq, st⟩
  · dsimp only [Pt.U, Pt.locs, Pt.cells, Pt.slots] at X' e1 e2 h1 h2 h3 st hcl
    subst h1; subst h2; subst h3
    exact Or.inr ⟨q, (T.setVm vm₁).calling g' mk (Value.ref b :: As).toArray, t, U', L, E, ce, hT, X', hL, e1, e2, hq, hce, hcv, vx_cls hW₁ hcl, st⟩
theorem vx_runS (S : CallFix p m c cc nL s args Ts own) (hM : vx_Met l y ws rm Pc Qc XC mc ms free) (cw : CallB R s args own index y bytes maxL ret ws rm mc ms n ∧ (Cond.static y).before args s = true) (hp : PreS s H Pc As)
    (hg : g.method = m) (hn : As.length = n) (hsize : g.locals.size = nL) (hstack : g.stack = As.reverse ++ rest) (hW : 2 * g.monitorRoom + (rest.map fun v => v.category).sum ≤ 8) (hdg : decode cc g.pc = .ok (.invokestatic index, 3)) (hf : cells + mc ≤ R.cells ∧ slots + ms ≤ R.slots) :
    vx_Run p l e R s m args below meth c H locs cells slots mc ms g rest (Qc As.toArray) XC free := by
  have hK : vx_Back l R p e below s args y 3 8 (PreOf R mc ms Pc) (PostOf Qc mc ms free) (vx_Post XC mc ms free) := vx_callBack cw.1 hM hp.1
  obtain ⟨⟨-, -, -, -, -, -, hcode, hini, hy, hlen, hl⟩, hstt⟩ := cw
  obtain ⟨hx, hb, hml, ho, -⟩ := S
  intro T hT X
  rcases vx_callS X hx (bytes := bytes) (maxL := maxL) (ret := ret) ho hl hstt hini hcode hy hK hg (hsize.trans hml.symm) (argsL := As) (rest := rest) (fun sig h => hn.trans (hlen sig h)) hstack hW (by rw [hb]; exact hdg)
    (fun vm₁ hW₁ => ⟨hf.1, hf.2, hp.2 (T.setVm vm₁) hT hW₁⟩) with ⟨v, vm₁, ⟨U', l2, c2, s2⟩, hW₁, X', ⟨g', mk, t, L, e1, e2, hq, h1, hL, h2, h3⟩, st⟩ | ⟨q, vm₁, ⟨U', l2, c2, s2⟩, hW₁, X', ⟨g', mk, t, L, E, ce, e1, e2, hq, hce, hcv, hcl, h1, hL, h2, h3⟩, st⟩
  · dsimp only [Pt.U, Pt.locs, Pt.cells, Pt.slots] at X' e1 e2 h1 h2 h3 st
    subst h1; subst h2; subst h3
    exact Or.inl ⟨v, (T.setVm vm₁).calling g' mk As.toArray, t, U', L, hT, X', hL, e1, e2, hq, st⟩
  · dsimp only [Pt.U, Pt.locs, Pt.cells, Pt.slots] at X' e1 e2 h1 h2 h3 st hcl
    subst h1; subst h2; subst h3
    exact Or.inr ⟨q, (T.setVm vm₁).calling g' mk As.toArray, t, U', L, E, ce, hT, X', hL, e1, e2, hq, hce, hcv, vx_cls hW₁ hcl, st⟩
end Runs
section Rows
variable {p : Program} {l : Launch} {e : Env} {R : Room} {s : State} {m : MethodId} {args : Array Value} {below : List Frame} {meth : Method} {c : Code} {H : Heap} {locs : List Loc} {cells slots : Nat} {Q : State → Prop}
variable {mc ms : Nat} {free : Addr → Prop} {A0 A1 : Nat → Prop} {H0 : Heap} {a : Array Value} {pc : Nat} {ls : Array Slot} {st0 rest : List Value}
theorem vx_keep {st₀ t T' : State} {L : List Loc} (h0 : st₀.heap = H) (e1 : T'.heap = t.heap) (hS : va_S A0 H0 H locs) (hA : ∀ q, q < H.size → A1 q → A0 q) (hf : ∀ q, free q → A0 q) (hL : ∀ q ∈ L, free q.base) (hF : va_F A1 st₀ t) :
    H.size ≤ T'.heap.size ∧ (∀ q : Nat, q < H.size → ¬ A1 q → T'.heap[q]? = H[q]?) ∧ va_S A0 H0 T'.heap (locs ++ L) := by
  obtain ⟨hz, hk⟩ := hF
  rw [h0] at hz hk
  exact ⟨by rw [e1]; exact hz, fun q h1 h2 => by rw [e1]; exact hk q h1 h2,
    ⟨Nat.le_trans hS.1 (by rw [e1]; exact hz), fun q h1 h2 => by rw [e1, hk q (Nat.lt_of_lt_of_le h1 hS.1) (fun z => h2 (hA q (Nat.lt_of_lt_of_le h1 hS.1) z))]; exact hS.2.1 q h1 h2, fun q hq => by
      rcases List.mem_append.mp hq with h | h
      · exact hS.2.2 q h
      · exact hf _ (hL q h)⟩⟩
theorem vx_calli {S SX : Type} {post : Int32 → S → Prop} {px : SX → Prop} {B : S → State → Prop} {BX : String → SX → State → Prop} {AX : Nat → Prop} (hr : vx_Run p l e R s m args below meth c H locs cells slots mc ms (F0 m pc ls st0) rest (va_Qi post B A1 a) (vx_X px BX AX) free) (hS : va_S A0 H0 H locs) (hA : ∀ q, q < H.size → A1 q → A0 q) (hf : ∀ q, free q → A0 q) (hAX : ∀ q, q < H.size → AX q → A0 q)
    (kx : ∀ (E : String) (ce : Cell) (q9 : Addr) (u : SX) (t : State) (H1 : Heap) (locs1 : List Loc), t.heap = H1 → s.vm.Alike t.vm → px u → BX E u t → H.size ≤ H1.size → (∀ q : Nat, q < H.size → ¬ AX q → H1[q]? = H[q]?) → va_S A0 H0 H1 locs1 → H1[q9]? = some ce → ce.vm = .none → s.vm.findClass E = some ce.cls → vx_W p l e R s m args below meth c H1 locs1 (cells + mc) (slots + ms) Q (F0 m pc ls rest) q9)
    (kk : ∀ (r : Int32) (u : S) (t : State) (H1 : Heap) (locs1 : List Loc), t.heap = H1 → s.vm.Alike t.vm → post r u → B u t → H.size ≤ H1.size → (∀ q : Nat, q < H.size → ¬ A1 q → H1[q]? = H[q]?) → va_S A0 H0 H1 locs1 → W p l e R s m args below meth c H1 locs1 (cells + mc) (slots + ms) Q (F0 m (pc + 3) ls (.int r :: rest))) : W p l e R s m args below meth c H locs cells slots Q (F0 m pc ls st0) := by
  intro T hT X
  rcases hr T hT X with ⟨v, st₀, t, T', L, h0, X', hL, e1, e2, ⟨⟨r, u, hv, hp, hb⟩, hF⟩, st⟩ | ⟨q, st₀, t, T', L, E, ce, h0, X', hL, e1, e2, ⟨u, hp, hb, hF⟩, hce, hcv, hcl, st⟩
  · cases hv
    obtain ⟨k1, k2, k3⟩ := vx_keep h0 e1 hS hA hf hL hF
    obtain ⟨t2, a1, b1⟩ := kk r u t T'.heap (locs ++ L) e1.symm (by rw [← e2]; exact X'.warmed.alike) hp hb k1 k2 k3 T' rfl X'
    exact ⟨t2, st t2 a1, b1⟩
  · obtain ⟨k1, k2, k3⟩ := vx_keep h0 e1 hS hAX hf hL hF
    obtain ⟨t2, a1, b1⟩ := kx E ce q u t T'.heap (locs ++ L) e1.symm (by rw [← e2]; exact X'.warmed.alike) hp hb k1 k2 k3 (by rw [e1]; exact hce) hcv hcl T' rfl X'
    exact ⟨t2, st.trans a1, b1⟩
theorem vx_calll {S SX : Type} {post : Int64 → S → Prop} {px : SX → Prop} {B : S → State → Prop} {BX : String → SX → State → Prop} {AX : Nat → Prop} (hr : vx_Run p l e R s m args below meth c H locs cells slots mc ms (F0 m pc ls st0) rest (va_Ql post B A1 a) (vx_X px BX AX) free) (hS : va_S A0 H0 H locs) (hA : ∀ q, q < H.size → A1 q → A0 q) (hf : ∀ q, free q → A0 q) (hAX : ∀ q, q < H.size → AX q → A0 q)
    (kx : ∀ (E : String) (ce : Cell) (q9 : Addr) (u : SX) (t : State) (H1 : Heap) (locs1 : List Loc), t.heap = H1 → s.vm.Alike t.vm → px u → BX E u t → H.size ≤ H1.size → (∀ q : Nat, q < H.size → ¬ AX q → H1[q]? = H[q]?) → va_S A0 H0 H1 locs1 → H1[q9]? = some ce → ce.vm = .none → s.vm.findClass E = some ce.cls → vx_W p l e R s m args below meth c H1 locs1 (cells + mc) (slots + ms) Q (F0 m pc ls rest) q9)
    (kk : ∀ (r : Int64) (u : S) (t : State) (H1 : Heap) (locs1 : List Loc), t.heap = H1 → s.vm.Alike t.vm → post r u → B u t → H.size ≤ H1.size → (∀ q : Nat, q < H.size → ¬ A1 q → H1[q]? = H[q]?) → va_S A0 H0 H1 locs1 → W p l e R s m args below meth c H1 locs1 (cells + mc) (slots + ms) Q (F0 m (pc + 3) ls (.long r :: rest))) : W p l e R s m args below meth c H locs cells slots Q (F0 m pc ls st0) := by
  intro T hT X
  rcases hr T hT X with ⟨v, st₀, t, T', L, h0, X', hL, e1, e2, ⟨⟨r, u, hv, hp, hb⟩, hF⟩, st⟩ | ⟨q, st₀, t, T', L, E, ce, h0, X', hL, e1, e2, ⟨u, hp, hb, hF⟩, hce, hcv, hcl, st⟩
  · cases hv
    obtain ⟨k1, k2, k3⟩ := vx_keep h0 e1 hS hA hf hL hF
    obtain ⟨t2, a1, b1⟩ := kk r u t T'.heap (locs ++ L) e1.symm (by rw [← e2]; exact X'.warmed.alike) hp hb k1 k2 k3 T' rfl X'
    exact ⟨t2, st t2 a1, b1⟩
  · obtain ⟨k1, k2, k3⟩ := vx_keep h0 e1 hS hAX hf hL hF
    obtain ⟨t2, a1, b1⟩ := kx E ce q u t T'.heap (locs ++ L) e1.symm (by rw [← e2]; exact X'.warmed.alike) hp hb k1 k2 k3 (by rw [e1]; exact hce) hcv hcl T' rfl X'
    exact ⟨t2, st.trans a1, b1⟩
theorem vx_callf {S SX : Type} {post : UInt32 → S → Prop} {px : SX → Prop} {B : S → State → Prop} {BX : String → SX → State → Prop} {AX : Nat → Prop} (hr : vx_Run p l e R s m args below meth c H locs cells slots mc ms (F0 m pc ls st0) rest (va_Qf post B A1 a) (vx_X px BX AX) free) (hS : va_S A0 H0 H locs) (hA : ∀ q, q < H.size → A1 q → A0 q) (hf : ∀ q, free q → A0 q) (hAX : ∀ q, q < H.size → AX q → A0 q)
    (kx : ∀ (E : String) (ce : Cell) (q9 : Addr) (u : SX) (t : State) (H1 : Heap) (locs1 : List Loc), t.heap = H1 → s.vm.Alike t.vm → px u → BX E u t → H.size ≤ H1.size → (∀ q : Nat, q < H.size → ¬ AX q → H1[q]? = H[q]?) → va_S A0 H0 H1 locs1 → H1[q9]? = some ce → ce.vm = .none → s.vm.findClass E = some ce.cls → vx_W p l e R s m args below meth c H1 locs1 (cells + mc) (slots + ms) Q (F0 m pc ls rest) q9)
    (kk : ∀ (r : UInt32) (u : S) (t : State) (H1 : Heap) (locs1 : List Loc), t.heap = H1 → s.vm.Alike t.vm → post r u → B u t → H.size ≤ H1.size → (∀ q : Nat, q < H.size → ¬ A1 q → H1[q]? = H[q]?) → va_S A0 H0 H1 locs1 → W p l e R s m args below meth c H1 locs1 (cells + mc) (slots + ms) Q (F0 m (pc + 3) ls (.float r :: rest))) : W p l e R s m args below meth c H locs cells slots Q (F0 m pc ls st0) := by
  intro T hT X
  rcases hr T hT X with ⟨v, st₀, t, T', L, h0, X', hL, e1, e2, ⟨⟨r, u, hv, hp, hb⟩, hF⟩, st⟩ | ⟨q, st₀, t, T', L, E, ce, h0, X', hL, e1, e2, ⟨u, hp, hb, hF⟩, hce, hcv, hcl, st⟩
  · cases hv
    obtain ⟨k1, k2, k3⟩ := vx_keep h0 e1 hS hA hf hL hF
    obtain ⟨t2, a1, b1⟩ := kk r u t T'.heap (locs ++ L) e1.symm (by rw [← e2]; exact X'.warmed.alike) hp hb k1 k2 k3 T' rfl X'
    exact ⟨t2, st t2 a1, b1⟩
  · obtain ⟨k1, k2, k3⟩ := vx_keep h0 e1 hS hAX hf hL hF
    obtain ⟨t2, a1, b1⟩ := kx E ce q u t T'.heap (locs ++ L) e1.symm (by rw [← e2]; exact X'.warmed.alike) hp hb k1 k2 k3 (by rw [e1]; exact hce) hcv hcl T' rfl X'
    exact ⟨t2, st.trans a1, b1⟩
theorem vx_calld {S SX : Type} {post : UInt64 → S → Prop} {px : SX → Prop} {B : S → State → Prop} {BX : String → SX → State → Prop} {AX : Nat → Prop} (hr : vx_Run p l e R s m args below meth c H locs cells slots mc ms (F0 m pc ls st0) rest (va_Qd post B A1 a) (vx_X px BX AX) free) (hS : va_S A0 H0 H locs) (hA : ∀ q, q < H.size → A1 q → A0 q) (hf : ∀ q, free q → A0 q) (hAX : ∀ q, q < H.size → AX q → A0 q)
    (kx : ∀ (E : String) (ce : Cell) (q9 : Addr) (u : SX) (t : State) (H1 : Heap) (locs1 : List Loc), t.heap = H1 → s.vm.Alike t.vm → px u → BX E u t → H.size ≤ H1.size → (∀ q : Nat, q < H.size → ¬ AX q → H1[q]? = H[q]?) → va_S A0 H0 H1 locs1 → H1[q9]? = some ce → ce.vm = .none → s.vm.findClass E = some ce.cls → vx_W p l e R s m args below meth c H1 locs1 (cells + mc) (slots + ms) Q (F0 m pc ls rest) q9)
    (kk : ∀ (r : UInt64) (u : S) (t : State) (H1 : Heap) (locs1 : List Loc), t.heap = H1 → s.vm.Alike t.vm → post r u → B u t → H.size ≤ H1.size → (∀ q : Nat, q < H.size → ¬ A1 q → H1[q]? = H[q]?) → va_S A0 H0 H1 locs1 → W p l e R s m args below meth c H1 locs1 (cells + mc) (slots + ms) Q (F0 m (pc + 3) ls (.double r :: rest))) : W p l e R s m args below meth c H locs cells slots Q (F0 m pc ls st0) := by
  intro T hT X
  rcases hr T hT X with ⟨v, st₀, t, T', L, h0, X', hL, e1, e2, ⟨⟨r, u, hv, hp, hb⟩, hF⟩, st⟩ | ⟨q, st₀, t, T', L, E, ce, h0, X', hL, e1, e2, ⟨u, hp, hb, hF⟩, hce, hcv, hcl, st⟩
  · cases hv
    obtain ⟨k1, k2, k3⟩ := vx_keep h0 e1 hS hA hf hL hF
    obtain ⟨t2, a1, b1⟩ := kk r u t T'.heap (locs ++ L) e1.symm (by rw [← e2]; exact X'.warmed.alike) hp hb k1 k2 k3 T' rfl X'
    exact ⟨t2, st t2 a1, b1⟩
  · obtain ⟨k1, k2, k3⟩ := vx_keep h0 e1 hS hAX hf hL hF
    obtain ⟨t2, a1, b1⟩ := kx E ce q u t T'.heap (locs ++ L) e1.symm (by rw [← e2]; exact X'.warmed.alike) hp hb k1 k2 k3 (by rw [e1]; exact hce) hcv hcl T' rfl X'
    exact ⟨t2, st.trans a1, b1⟩
theorem vx_callv {S SX : Type} {post : S → Prop} {px : SX → Prop} {B : S → State → Prop} {BX : String → SX → State → Prop} {AX : Nat → Prop} (hr : vx_Run p l e R s m args below meth c H locs cells slots mc ms (F0 m pc ls st0) rest (va_Qv post B A1 a) (vx_X px BX AX) free) (hS : va_S A0 H0 H locs) (hA : ∀ q, q < H.size → A1 q → A0 q) (hf : ∀ q, free q → A0 q) (hAX : ∀ q, q < H.size → AX q → A0 q)
    (kx : ∀ (E : String) (ce : Cell) (q9 : Addr) (u : SX) (t : State) (H1 : Heap) (locs1 : List Loc), t.heap = H1 → s.vm.Alike t.vm → px u → BX E u t → H.size ≤ H1.size → (∀ q : Nat, q < H.size → ¬ AX q → H1[q]? = H[q]?) → va_S A0 H0 H1 locs1 → H1[q9]? = some ce → ce.vm = .none → s.vm.findClass E = some ce.cls → vx_W p l e R s m args below meth c H1 locs1 (cells + mc) (slots + ms) Q (F0 m pc ls rest) q9)
    (kk : ∀ (u : S) (t : State) (H1 : Heap) (locs1 : List Loc), t.heap = H1 → s.vm.Alike t.vm → post u → B u t → H.size ≤ H1.size → (∀ q : Nat, q < H.size → ¬ A1 q → H1[q]? = H[q]?) → va_S A0 H0 H1 locs1 → W p l e R s m args below meth c H1 locs1 (cells + mc) (slots + ms) Q (F0 m (pc + 3) ls (rest))) : W p l e R s m args below meth c H locs cells slots Q (F0 m pc ls st0) := by
  intro T hT X
  rcases hr T hT X with ⟨v, st₀, t, T', L, h0, X', hL, e1, e2, ⟨⟨u, hv, hp, hb⟩, hF⟩, st⟩ | ⟨q, st₀, t, T', L, E, ce, h0, X', hL, e1, e2, ⟨u, hp, hb, hF⟩, hce, hcv, hcl, st⟩
  · cases hv
    obtain ⟨k1, k2, k3⟩ := vx_keep h0 e1 hS hA hf hL hF
    obtain ⟨t2, a1, b1⟩ := kk u t T'.heap (locs ++ L) e1.symm (by rw [← e2]; exact X'.warmed.alike) hp hb k1 k2 k3 T' rfl X'
    exact ⟨t2, st t2 a1, b1⟩
  · obtain ⟨k1, k2, k3⟩ := vx_keep h0 e1 hS hAX hf hL hF
    obtain ⟨t2, a1, b1⟩ := kx E ce q u t T'.heap (locs ++ L) e1.symm (by rw [← e2]; exact X'.warmed.alike) hp hb k1 k2 k3 (by rw [e1]; exact hce) hcv hcl T' rfl X'
    exact ⟨t2, st.trans a1, b1⟩
/-- caught by the row x of this method's table; the rows ahead don't take it -/
theorem vx_catch {own name : String} {E : String} {ce : Cell} {q : Addr} (hown : s.vm.findClass own = some m.cls) (pre : List ExceptionTableEntry) (x : ExceptionTableEntry) (suf : List ExceptionTableEntry) (hsplit : c.exceptionTable.toList = pre ++ x :: suf)
    (hpass : ∀ z ∈ pre, covers z pc = false ∨ (z.catchType ≠ 0 ∧ ∃ nm : String, (Cond.classLink own z.catchType nm).before args s = true ∧ va_Nc E nm s)) (hx : covers x pc = true) (h0 : x.catchType ≠ 0)
    (hlink : (Cond.classLink own x.catchType name).before args s = true) (hcast : (Cond.castable E name).before args s = true) (hcell : H[q]? = some ce) (hv : ce.vm = .none) (hcl : s.vm.findClass E = some ce.cls)
    (kk : W p l e R s m args below meth c H locs cells slots Q (F0 m x.handlerPc ls [.ref q])) : vx_W p l e R s m args below meth c H locs cells slots Q (F0 m pc ls rest) q := by
  intro T hT X
  have hpl : e.platform.magicAccessors = ({} : Platform).magicAccessors := by rw [X.admits.platform]
  obtain ⟨c3, c4, hc3, hc4, hasg⟩ := Cond.castable_spec hcast
  cases Option.some.inj (hc3.symm.trans hcl)
  obtain ⟨c5, hc5, hcl5⟩ := Cond.classLink_spec hown hlink e.platform hpl
  cases Option.some.inj (hc4.symm.trans hc5)
  obtain ⟨vm', X', st⟩ := X.thenCaughtThrough q (g := F0 m pc ls rest) rfl (Steps.refl _) (by rw [hT]; exact hcell) (by rw [hv]; rfl) (by obtain ⟨k9, h9, -⟩ := Vm.findClass_spec hcl; exact ⟨k9, h9⟩) pre x suf hsplit
    (fun z hz => by
      rcases hpass z hz with h | ⟨hz0, nm, hl1, hn1⟩
      · exact Or.inl h
      · obtain ⟨c6, hc6, hcl6⟩ := Cond.classLink_spec hown hl1 e.platform hpl
        obtain ⟨a8, b8, h1, h2, h3⟩ := hn1
        cases Option.some.inj (h1.symm.trans hcl)
        cases Option.some.inj (h2.symm.trans hc6)
        exact Or.inr ⟨hz0, _, hcl6, h3⟩) hx (Or.inr ⟨h0, c4, hcl5, hasg⟩)
  obtain ⟨t, a1, b1⟩ := kk (T.setVm vm') hT X'
  exact ⟨t, st.trans a1, b1⟩
end Rows
section Ends
variable {p : Program} {l : Launch} {e : Env} {R : Room} {s : State} {m : MethodId} {args : Array Value} {below : List Frame} {meth : Method} {c : Code} {H : Heap} {locs : List Loc} {cells slots : Nat} {Q : State → Prop}
variable {mc ms : Nat} {free : Addr → Prop} {A0 A1 : Nat → Prop} {H0 : Heap} {a : Array Value} {ls : Array Slot} {st0 rest : List Value}
variable {Qc : Array Value → State → Outcome → State → Prop} {XC : String → State → State → Prop}
/-- what a body that may throw owes at its end -/
def vx_MQ (below : List Frame) (Qc : Array Value → State → Outcome → State → Prop) (XC : String → State → State → Prop) (a : Array Value) (s : State) (mc ms : Nat) (free : Addr → Prop) : State → Prop := fun t =>
  ∃ o, t.status = .running ∧ Ended t below o ∧ vx_Q Qc XC mc ms free a s o t
theorem vx_ret {g : JFrame} {mc ms : Nat} (k : W p l e R s m args below meth c H locs cells slots (MQ below Qc args s mc ms free) g) : W p l e R s m args below meth c H locs cells slots (vx_MQ below Qc XC args s mc ms free) g := by
  intro T hT X
  obtain ⟨t, a1, o, b1, b2, b3, b4⟩ := k T hT X
  exact ⟨t, a1, o, b1, b2, Or.inl ⟨b3, b4⟩⟩
/-- not caught here: it goes on to the caller -/
theorem vx_widen {g : JFrame} {q : Addr} {k n : Nat} (h1 : cells ≤ k) (h2 : slots ≤ n) (kk : vx_W p l e R s m args below meth c H locs k n Q g q) : vx_W p l e R s m args below meth c H locs cells slots Q g q := fun T hT X => kk T hT (stand_widen X h1 h2)
theorem vx_out {pc : Nat} {E : String} {ce : Cell} {q : Addr} {mc ms : Nat} (hout : ∀ x ∈ c.exceptionTable.toList, covers x pc = false) (hlocks : meth.locks = false) (hcell : H[q]? = some ce) (hv : ce.vm = .none) (hcl : s.vm.findClass E = some ce.cls)
    (hx : ∀ t : State, t.heap = H → s.vm.Alike t.vm → XC E s t) (hf : ∀ z ∈ locs, free z.base) (hc : cells ≤ mc) (hs : slots ≤ ms) :
    vx_W p l e R s m args below meth c H locs cells slots (vx_MQ below Qc XC args s mc ms free) (F0 m pc ls rest) q := by
  intro T hT X
  obtain ⟨st1, hrun, hend, hW, hsm⟩ := X.leaveThrown q (g := F0 m pc ls rest) rfl rfl rfl hout hlocks
  have hcell9 : (T.setFrames (.throwing q :: below)).heap[q]? = some ce := by
    show T.heap[q]? = some ce
    rw [hT]; exact hcell
  exact ⟨_, st1, .threw q, hrun, hend, Or.inr ⟨q, rfl, E, ce, locs, hx _ hT hW.alike, hcell9, hv, hcl, hW, hsm.mono hc hs, hf⟩⟩
theorem vx_frame {U : State} {k n : Nat} (h : s.sameButNew ({ U with vm := s.vm } : State) locs k n) : s.heap.size ≤ U.heap.size ∧ ∀ q : Nat, q < s.heap.size → (∀ z ∈ locs, z.base ≠ q) → U.heap[q]? = s.heap[q]? := by
  obtain ⟨-, h2, -, -, -, h6⟩ := h
  refine ⟨h2, fun q hq hz => ?_⟩
  obtain ⟨c9, e1, e2, e3, e4⟩ := h6 q _ (Array.getElem?_eq_getElem hq)
  have hs : c9.slots = (s.heap[q]).slots := Array.ext_getElem? fun i => e4 i fun hm => hz _ hm rfl
  have h9 : c9 = s.heap[q] := by
    rw [hs] at e2
    exact e2
  have e5 : U.heap[q]? = some c9 := e1
  rw [e5, h9, Array.getElem?_eq_getElem hq]
/-- the words of a throw but the four that speak of the heap -/
def vx_no (w : Cond) : Bool := decide (w ≠ .isRef (.static Bundle.tN "UNASSIGNED_STACK" Bundle.steD)) && decide (w ≠ .isRef (.static Bundle.tN "SUPPRESSED_SENTINEL" Bundle.listD)) && decide (w ≠ .laysStatic Bundle.tN "UNASSIGNED_STACK" Bundle.steD) && decide (w ≠ .laysStatic Bundle.tN "SUPPRESSED_SENTINEL" Bundle.listD)
def vx_at0 (own : String) (ic : Nat) (X : String) (names : List String) : List Cond := (Bundle.ownAtoms0 own ic X names).filter vx_no
def vx_atS (own : String) (ic : Nat) (X : String) (names : List String) : List Cond := (Bundle.ownAtoms own ic X names).filter vx_no
/-- a word that the tables alone decide, or a good one -/
def vx_ot (w : Cond) : Bool := w.onTables || goodWord w
theorem vx_ot_at {args a' : Array Value} {s U : State} {w : Cond} (hW : s.WarmedH U.vm) (hvm : s.vm = U.vm) (hg : vx_ot w = true) (h : w.before args s = true) : w.before a' U = true := by
  simp only [vx_ot, Bool.or_eq_true] at hg
  rcases hg with hg | hg
  · exact va_tabs hg hvm h
  · exact word_at hW (good_of_word hg) h
/-- a list's words: the good ones out of the method's own list, the others by premises of their own -/
theorem vx_hat {args : Array Value} {s : State} {L B : List Cond} (h1 : ∀ w ∈ L.filter goodWord, w.before args s = true) (h2 : ∀ w ∈ L.filter (fun w => !goodWord w), w ∈ B) (h3 : ∀ w ∈ B, w.before args s = true) : ∀ w ∈ L, w.before args s = true := by
  intro w hw
  by_cases g : goodWord w = true
  · exact h1 w (List.mem_filter.mpr ⟨hw, g⟩)
  · refine h3 w (h2 w (List.mem_filter.mpr ⟨hw, ?_⟩))
    show (!goodWord w) = true
    cases hgw : goodWord w
    · rfl
    · exact absurd hgw g
theorem vx_c {args : Array Value} {s : State} {w : Cond} {B : List Cond} (h : w.before args s = true) (t : ∀ w ∈ B, w.before args s = true) : ∀ w' ∈ w :: B, w'.before args s = true := fun w' h' => (List.mem_cons.mp h').elim (fun e => by rw [e]; exact h) (t w')
theorem vx_n {args : Array Value} {s : State} : ∀ w ∈ ([] : List Cond), w.before args s = true := fun _ h => nomatch h
theorem vx_own {args : Array Value} {s : State} {L : List Cond} (h1 : ∀ w ∈ L.filter vx_no, w.before args s = true)
    (hU : (Cond.isRef (.static Bundle.tN "UNASSIGNED_STACK" Bundle.steD)).before args s = true) (hN : (Cond.isRef (.static Bundle.tN "SUPPRESSED_SENTINEL" Bundle.listD)).before args s = true)
    (lU : (Cond.laysStatic Bundle.tN "UNASSIGNED_STACK" Bundle.steD).before args s = true) (lN : (Cond.laysStatic Bundle.tN "SUPPRESSED_SENTINEL" Bundle.listD).before args s = true) : ∀ w ∈ L, w.before args s = true := by
  intro w hw
  by_cases e1 : w = .isRef (.static Bundle.tN "UNASSIGNED_STACK" Bundle.steD)
  · rw [e1]; exact hU
  · by_cases e2 : w = .isRef (.static Bundle.tN "SUPPRESSED_SENTINEL" Bundle.listD)
    · rw [e2]; exact hN
    · by_cases e3 : w = .laysStatic Bundle.tN "UNASSIGNED_STACK" Bundle.steD
      · rw [e3]; exact lU
      · by_cases e4 : w = .laysStatic Bundle.tN "SUPPRESSED_SENTINEL" Bundle.listD
        · rw [e4]; exact lN
        · exact h1 w (List.mem_filter.mpr ⟨hw, by unfold vx_no; rw [decide_eq_true e1, decide_eq_true e2, decide_eq_true e3, decide_eq_true e4]; rfl⟩)
/-- where a static field lies, its class's statics cell in H -/
def vx_L (C n d : String) (A : Nat → Prop) (U : State) (H : Heap) : Prop := ∃ (c : ClassId) (k : Class) (i : Nat) (f : Field) (a : Nat) (cell : Cell), U.vm.findClass C = some c ∧ U.fieldFound? C n d = some (c, k, i, f) ∧ f.isStatic = true ∧ k.statics = some a ∧ H[a]? = some cell ∧ cell.vm.isStatics = true ∧ cell.cls = c ∧ f.slot < cell.slots.size ∧ k.staticTypes[f.slot]? = some f.type ∧ ¬ A a
theorem vx_L.moved {C n d : String} {A : Nat → Prop} {u U : State} {H : Heap} (hvm : u.vm.Alike U.vm) (h : vx_L C n d A u H) : vx_L C n d A U H := by
  obtain ⟨c, k, i, f, a, cell, h1, h2, h3, h4, h5, h6, h7, h8, h9, h10⟩ := h
  obtain ⟨k', hi', he⟩ := State.fieldFound?_setVm hvm h2
  exact ⟨c, k', i, f, a, cell, by rw [hvm.findClass]; exact h1, hi', h3, by rw [he]; exact h4, h5, h6, h7, h8, by rw [he]; exact h9, h10⟩
theorem vx_L.kept {C n d : String} {A : Nat → Prop} {U : State} {H H1 : Heap} (h : vx_L C n d A U H) (hq : ∀ a : Nat, a < H.size → ¬ A a → H1[a]? = H[a]?) : vx_L C n d A U H1 := by
  obtain ⟨c, k, i, f, a, cell, h1, h2, h3, h4, h5, h6, h7, h8, h9, h10⟩ := h
  exact ⟨c, k, i, f, a, cell, h1, h2, h3, h4, by rw [hq a (Array.getElem?_eq_some_iff.mp h5).1 h10]; exact h5, h6, h7, h8, h9, h10⟩
theorem vx_L.narrow {C n d : String} {A B : Nat → Prop} {U : State} {H : Heap} (h : vx_L C n d A U H) (hAB : ∀ q, B q → A q) : vx_L C n d B U H := by
  obtain ⟨c, k, i, f, a, cell, h1, h2, h3, h4, h5, h6, h7, h8, h9, h10⟩ := h
  exact ⟨c, k, i, f, a, cell, h1, h2, h3, h4, h5, h6, h7, h8, h9, fun z => h10 (hAB _ z)⟩
theorem vx_L.word {C n d : String} {A : Nat → Prop} {s : State} {args : Array Value} (h : vx_L C n d A s s.heap) : (Cond.laysStatic C n d).before args s = true := by
  obtain ⟨c, k, i, f, a, cell, h1, h2, h3, h4, h5, h6, h7, h8, h9, -⟩ := h
  show (Cond.laysStatic C n d).holds args s none s [] = true
  exact Cond.laysStatic_of h1 h2 h3 h4 h5 h6 h7 h8 h9
/-- .. and what it holds: null or some reference -/
def vx_Zq (C n d : String) (A : Nat → Prop) (U : State) (H : Heap) : Prop := va_Zq C n d A U H ∧ vx_L C n d A U H
theorem vx_Zq.moved {C n d : String} {A : Nat → Prop} {u U : State} {H : Heap} (hvm : u.vm.Alike U.vm) (h : vx_Zq C n d A u H) : vx_Zq C n d A U H := ⟨va_Zq.moved hvm h.1, vx_L.moved hvm h.2⟩
theorem vx_Zq.kept {C n d : String} {A : Nat → Prop} {U : State} {H H1 : Heap} (h : vx_Zq C n d A U H) (hq : ∀ a : Nat, a < H.size → ¬ A a → H1[a]? = H[a]?) : vx_Zq C n d A U H1 := ⟨va_Zq.kept h.1 hq, vx_L.kept h.2 hq⟩
theorem vx_Zq.narrow {C n d : String} {A B : Nat → Prop} {U : State} {H : Heap} (h : vx_Zq C n d A U H) (hAB : ∀ q, B q → A q) : vx_Zq C n d B U H := ⟨va_Zq.narrow h.1 hAB, vx_L.narrow h.2 hAB⟩
theorem vx_Zqof {args : Array Value} {s : State} {C n d : String} {A : Nat → Prop} (hl : (Cond.laysStatic C n d).before args s = true) (hini : (Cond.initialized C).before args s = true) (h : (Cond.isRef (.static C n d)).before args s = true) (hA : ∀ a : Nat, a < s.heap.size → ¬ A a) : vx_Zq C n d A s s.heap := by
  refine ⟨va_Zqof hl hini h hA, ?_⟩
  obtain ⟨c, k, i, f, a, cell, h1, h2, h3, h4, h5, h6, h7, h8, h9⟩ := Cond.laysStatic_spec hl
  exact ⟨c, k, i, f, a, cell, h1, h2, h3, h4, h5, h6, h7, h8, h9, hA a (Array.getElem?_eq_some_iff.mp h5).1⟩
theorem vx_isRef {C n d : String} {v : Value} {A : Nat → Prop} {s : State} {args : Array Value} (h : va_Z C n d v A s s.heap) (hv : v.isRef = true) : (Cond.isRef (.static C n d)).before args s = true := by
  obtain ⟨cf, kf, fi, f, a, cell, h1, h2, h3, h4, h5, h6, h7, -⟩ := h
  have he : (Term.static C n d).eval args s none [] s = some v := by
    simp [Term.eval, State.fieldNamed?, h1, h2, h4, h5, h6, h7]
  simp only [Cond.before, Cond.holds, Cond.value, he]
  cases v <;> simp_all [Value.isRef]
theorem vx_isRefq {C n d : String} {A : Nat → Prop} {s : State} {args : Array Value} (h : va_Zq C n d A s s.heap) : (Cond.isRef (.static C n d)).before args s = true := by
  rcases h with h | ⟨t, h⟩
  · exact vx_isRef h rfl
  · exact vx_isRef h rfl
/-- the same frame, seen from here: as if the method were called anew in this heap -/
theorem vx_rebase {T : State} (X : Stand p l e R s m args below meth c T locs cells slots) {R' : Room} (hf : R'.frames ≤ R.frames) (hl : R'.locals ≤ R.locals) (hc : cells + R'.cells ≤ R.cells) (hs : slots + R'.slots ≤ R.slots) :
    Stand p l e R' ((T.setVm s.vm).setFrames (.invoking m args :: below)) m args below meth c T [] 0 0 := by
  have htop : (T.setVm s.vm).topJava?.isSome := X.here.top
  have hF : ((T.setVm s.vm).setFrames (.invoking m args :: below)).frames = .invoking m args :: below := State.frames_setFrames _ (State.cur_lt_of_top htop)
  obtain ⟨g₀, hg0⟩ := Option.isSome_iff_exists.mp htop
  obtain ⟨r, hr⟩ := State.topJava?_eq_some.mp hg0
  have hl9 : e.platform.stackLimits (T.setVm s.vm).me = e.platform.stackLimits s.me := X.limits
  have hb9 : (T.setVm s.vm).me.stackBytes = s.me.stackBytes := X.bytes
  refine ⟨X.admits, X.cas, X.clock, hF, ?_, X.hears, X.method, X.code, X.here, X.tail, X.warmed, ?_, ?_, ?_⟩
  · have h := X.room
    have hU : ((T.setVm s.vm).setFrames (.invoking m args :: below)).localsInUse = s.localsInUse := by
      rw [State.localsInUse_invoking hF (meth := meth) (c := c) X.method X.code, State.localsInUse_invoking X.frames X.method X.code]
    simp only [State.hasRoom, Bool.and_eq_true, decide_eq_true_eq] at h ⊢
    obtain ⟨⟨⟨⟨h1, h2, h3, h4, h5, h6⟩, h7⟩, h8⟩, h9⟩ := h
    rw [X.frames, List.length_cons] at h2 h3
    have q1 := X.heapSize
    have q2 := X.used
    simp only [hF, hU, List.length_cons, State.stackLimits_setFrames, State.stackBytes_setFrames, hl9, hb9]
    refine ⟨⟨⟨⟨by omega, by omega, by omega, by omega, by omega, h6⟩, ?_⟩, ?_⟩, X.book⟩
    · show T.heap.size + R'.cells ≤ e.platform.maxCells
      omega
    · show T.slotsUsed + R'.slots ≤ e.platform.maxSlots
      omega
  · rw [State.stackLimits_setFrames]; rfl
  · rw [State.stackBytes_setFrames]; rfl
  · refine ⟨?_, Nat.le_refl _, Nat.le_refl _, ?_, ?_, fun a c9 h9 => ⟨c9, h9, rfl, rfl, fun _ _ => rfl⟩⟩
    · obtain ⟨t, ht, -⟩ := State.frames_cons hr
      show T.setVm s.vm = { ((T.setVm s.vm).setFrames (.invoking m args :: below)).setFrames (T.setVm s.vm).frames with heap := T.heap, slotsUsed := T.slotsUsed }
      rw [State.setFrames_setFrames, State.setFrames_self ht]
      rfl
    · show T.slotsUsed = T.slotsUsed + ((T.heap.toList.drop T.heap.size).map (·.slots.size)).sum
      rw [List.drop_eq_nil_of_le (Nat.le_of_eq Array.length_toList)]
      rfl
    · show ((T.heap.toList.drop T.heap.size).map (·.slots.size)).sum ≤ 0
      rw [List.drop_eq_nil_of_le (Nat.le_of_eq Array.length_toList)]
      exact Nat.le_refl _
/-- 'throw new E()': new; dup; invokespecial; athrow -/
theorem vx_throw0 {cc : ByteArray} {pc : Nat} (hexec : p.tables.exec = Jvm.exec) (hb : c.code = cc) (hl : l.stackTraces = false) {own cls : String} {names : List String} {ik ic mc ms : Nat} {A : Nat → Prop}
    (hown : s.vm.findClass own = some m.cls) (hcls : Bundle.fit cls = true) (hnames : ∀ n ∈ names, Bundle.fit n = true)
    (hk : (Cond.classLink own ik cls).before args s = true) (hini : (Cond.initialized cls).before args s = true) (hat : ∀ w ∈ vx_at0 own ic cls names, w.before args s = true)
    (hgood : ∀ w ∈ Cond.classLink own ik cls :: Cond.initialized cls :: vx_at0 own ic cls names, vx_ot w = true)
    (hU : vx_Zq Bundle.tN "UNASSIGNED_STACK" Bundle.steD A s s.heap) (hN : vx_Zq Bundle.tN "SUPPRESSED_SENTINEL" Bundle.listD A s s.heap) (hS : va_S A s.heap H locs) (hsize : ls.size = c.maxLocals)
    (d0 : decode cc pc = .ok (.new ik, 3)) (d3 : decode cc (pc + 3) = .ok (.dup, 1)) (d4 : decode cc (pc + 4) = .ok (.invokespecial ic, 3)) (d7 : decode cc (pc + 7) = .ok (.athrow, 1))
    (hout : ∀ x ∈ c.exceptionTable.toList, covers x (pc + 7) = false)
    (hRframes : names.length + 3 < R.frames) (hRlocals : (rest.map fun v => v.category).sum + (13 * (names.length + 1) + 42) ≤ R.locals) (hRcells : cells + 1 ≤ R.cells) (hRslots : slots + 6 ≤ R.slots) (hlocks : meth.locks = false)
    (hx : ∀ t : State, s.vm.Alike t.vm → H.size ≤ t.heap.size → (∀ q : Nat, q < H.size → t.heap[q]? = H[q]?) → XC cls s t)
    (hf : ∀ z ∈ locs, free z.base) (hc : cells + 1 ≤ mc) (hs : slots + 6 ≤ ms) :
    W p l e R s m args below meth c H locs cells slots (vx_MQ below Qc XC args s mc ms free) (F0 m pc ls rest) := by
  intro T hT X
  have htr : e.platform.stackTraces = false := (show e.platform.stackTraces = l.stackTraces by rw [X.admits.platform]).trans hl
  have Y := vx_rebase X (R' := { frames := R.frames, locals := R.locals, cells := 1, slots := 6 }) (Nat.le_refl _) (Nat.le_refl _) hRcells hRslots
  obtain ⟨s', hA⟩ : ∃ z, z = (T.setVm s.vm).setFrames (.invoking m args :: below) := ⟨_, rfl⟩
  rw [← hA] at Y
  have hvm : s'.vm = s.vm := by rw [hA]; rfl
  have hhp : s'.heap = H := by rw [hA]; exact hT
  have hW0 : s.WarmedH s'.vm := by rw [hvm]; exact State.WarmedH.refl s
  have hat' : ∀ w ∈ vx_at0 own ic cls names, w.before args s' = true := fun w hw => vx_ot_at hW0 hvm.symm (hgood w (List.mem_cons_of_mem _ (List.mem_cons_of_mem _ hw))) (hat w hw)
  have hk' : (Cond.classLink own ik cls).before args s' = true := vx_ot_at hW0 hvm.symm (hgood _ List.mem_cons_self) hk
  have hini' : (Cond.initialized cls).before args s' = true := vx_ot_at hW0 hvm.symm (hgood _ (List.mem_cons_of_mem _ List.mem_cons_self)) hini
  have hU' : vx_Zq Bundle.tN "UNASSIGNED_STACK" Bundle.steD A s' s'.heap := by rw [hhp]; exact vx_Zq.moved hW0.alike (hU.kept hS.2.1)
  have hN' : vx_Zq Bundle.tN "SUPPRESSED_SENTINEL" Bundle.listD A s' s'.heap := by rw [hhp]; exact vx_Zq.moved hW0.alike (hN.kept hS.2.1)
  have h : ∀ w ∈ Bundle.ownAtoms0 own ic cls names, w.before args s' = true := vx_own hat' (vx_isRefq hU'.1) (vx_isRefq hN'.1) hU'.2.word hN'.2.word
  have hown' : s'.vm.findClass own = some m.cls := by rw [hvm]; exact hown
  have hins : (Cond.instantiable cls 6).before args s' = true := h _ (by simp [Bundle.ownAtoms0])
  obtain ⟨vm₁, cX, kX, hfX, hkX, -, -, X₁, st1⟩ := Y.newCold hexec (own := own) (C := cls) (index := ik) (n := 6) hown' hk' hins hini'
    (g := F0 m pc ls rest) rfl (by rw [hb]; exact d0) (Nat.le_refl _) (Nat.le_refl _)
  generalize hT1 : (T.setVm vm₁).pushCell { cls := cX, slots := kX.instanceTypes.map defaultValue, vm := .none } = T1 at X₁ st1
  have hcat : (Value.ref T.heap.size).category = 1 := rfl
  have hcellA : T1.heap[T.heap.size]? = some (freshCell cX kX) := by rw [← hT1]; exact State.heap_pushCell_size _ _
  have d3' : decode c.code (pc + 3) = .ok (.dup, 1) := by rw [hb]; exact d3
  obtain ⟨U, hsteps, hrun, hend, hW, hsame, ce, hce, hO⟩ := X₁.ctorThrow0 hexec htr (own := own) (cls := cls) (names := names) (ic := ic) hown' hcls hnames h (fun x hx => nomatch hx) hfX hkX hcellA (by rw [hhp, hT]; exact Nat.le_refl _)
    (g := { method := m, pc := pc + 4, locals := ls, stack := .ref T.heap.size :: .ref T.heap.size :: rest, locked := none }) rfl hsize rfl rfl (rest := rest) rfl
    (by rw [hb]; exact d4) (by rw [hb]; exact d7) hout hRframes (by simp only [List.map_cons, List.sum_cons, hcat]; omega) hlocks
  obtain ⟨f1, f2⟩ := vx_frame hsame
  rw [hhp] at f1 f2
  have hWs : s.WarmedH U.vm := State.WarmedH.trans hW0 hW
  have hcl : s.vm.findClass cls = some ce.cls := by
    have h9 := hO.cls
    rw [hvm] at h9
    exact h9
  have hall : s.sameButNew ({ U with vm := s.vm } : State) locs mc ms := by
    subst hA
    obtain ⟨e1, e2⟩ := hsame
    rw [State.setFrames_setFrames] at e1
    have h2 : (T.setVm s.vm).sameButNew ({ U with vm := s.vm } : State) [] (0 + 1) (0 + 6) := ⟨e1, e2⟩
    have h3 := X.same.trans h2
    rw [List.append_nil] at h3
    exact h3.mono hc hs
  refine ⟨U, ?_, .threw T.heap.size, hrun, hend, Or.inr ⟨T.heap.size, rfl, cls, ce, locs, hx U hWs.alike f1 (fun q hq => f2 q hq (fun z hz => nomatch hz)), hce, hO.vm, hcl, hWs, hall, hf⟩⟩
  refine st1 _ ?_
  show Steps p.tables e below (T1.setTop { method := m, pc := pc + 3, locals := ls, stack := .ref T.heap.size :: rest, locked := none }) _
  jvm_step X₁.here [X₁.here.top, hexec, d3', Value.category]
  exact hsteps
/-- 'throw new E("text")': new; dup; ldc; invokespecial; athrow -/
theorem vx_throwS {cc : ByteArray} {pc : Nat} (hexec : p.tables.exec = Jvm.exec) (hb : c.code = cc) (hl : l.stackTraces = false) {own cls text : String} {names : List String} {ik is ic mc ms sa : Nat} {A : Nat → Prop}
    (hown : s.vm.findClass own = some m.cls) (hcls : Bundle.fit cls = true) (hnames : ∀ n ∈ names, Bundle.fit n = true)
    (hk : (Cond.classLink own ik cls).before args s = true) (hini : (Cond.initialized cls).before args s = true) (hstr : vk_R own is text sa s) (hat : ∀ w ∈ vx_atS own ic cls names, w.before args s = true)
    (hgood : ∀ w ∈ Cond.classLink own ik cls :: Cond.initialized cls :: vx_atS own ic cls names, vx_ot w = true)
    (hU : vx_Zq Bundle.tN "UNASSIGNED_STACK" Bundle.steD A s s.heap) (hN : vx_Zq Bundle.tN "SUPPRESSED_SENTINEL" Bundle.listD A s s.heap) (hS : va_S A s.heap H locs) (hsize : ls.size = c.maxLocals)
    (d0 : decode cc pc = .ok (.new ik, 3)) (d3 : decode cc (pc + 3) = .ok (.dup, 1)) (d4 : decode cc (pc + 4) = .ok (.ldc is, 2)) (d6 : decode cc (pc + 6) = .ok (.invokespecial ic, 3)) (d9 : decode cc (pc + 9) = .ok (.athrow, 1))
    (hout : ∀ x ∈ c.exceptionTable.toList, covers x (pc + 9) = false)
    (hRframes : names.length + 3 < R.frames) (hRlocals : (rest.map fun v => v.category).sum + (13 * (names.length + 1) + 43) ≤ R.locals) (hRcells : cells + 1 ≤ R.cells) (hRslots : slots + 6 ≤ R.slots) (hlocks : meth.locks = false)
    (hx : ∀ t : State, s.vm.Alike t.vm → H.size ≤ t.heap.size → (∀ q : Nat, q < H.size → t.heap[q]? = H[q]?) → XC cls s t)
    (hf : ∀ z ∈ locs, free z.base) (hc : cells + 1 ≤ mc) (hs : slots + 6 ≤ ms) :
    W p l e R s m args below meth c H locs cells slots (vx_MQ below Qc XC args s mc ms free) (F0 m pc ls rest) := by
  intro T hT X
  have htr : e.platform.stackTraces = false := (show e.platform.stackTraces = l.stackTraces by rw [X.admits.platform]).trans hl
  have Y := vx_rebase X (R' := { frames := R.frames, locals := R.locals, cells := 1, slots := 6 }) (Nat.le_refl _) (Nat.le_refl _) hRcells hRslots
  obtain ⟨s', hA⟩ : ∃ z, z = (T.setVm s.vm).setFrames (.invoking m args :: below) := ⟨_, rfl⟩
  rw [← hA] at Y
  have hvm : s'.vm = s.vm := by rw [hA]; rfl
  have hhp : s'.heap = H := by rw [hA]; exact hT
  have hW0 : s.WarmedH s'.vm := by rw [hvm]; exact State.WarmedH.refl s
  have hat' : ∀ w ∈ vx_atS own ic cls names, w.before args s' = true := fun w hw => vx_ot_at hW0 hvm.symm (hgood w (List.mem_cons_of_mem _ (List.mem_cons_of_mem _ hw))) (hat w hw)
  have hk' : (Cond.classLink own ik cls).before args s' = true := vx_ot_at hW0 hvm.symm (hgood _ List.mem_cons_self) hk
  have hini' : (Cond.initialized cls).before args s' = true := vx_ot_at hW0 hvm.symm (hgood _ (List.mem_cons_of_mem _ List.mem_cons_self)) hini
  have hU' : vx_Zq Bundle.tN "UNASSIGNED_STACK" Bundle.steD A s' s'.heap := by rw [hhp]; exact vx_Zq.moved hW0.alike (hU.kept hS.2.1)
  have hN' : vx_Zq Bundle.tN "SUPPRESSED_SENTINEL" Bundle.listD A s' s'.heap := by rw [hhp]; exact vx_Zq.moved hW0.alike (hN.kept hS.2.1)
  have h : ∀ w ∈ Bundle.ownAtoms own ic cls names, w.before args s' = true := vx_own hat' (vx_isRefq hU'.1) (vx_isRefq hN'.1) hU'.2.word hN'.2.word
  have hown' : s'.vm.findClass own = some m.cls := by rw [hvm]; exact hown
  have hins : (Cond.instantiable cls 6).before args s' = true := h _ (by simp [Bundle.ownAtoms])
  obtain ⟨vm₁, cX, kX, hfX, hkX, -, -, X₁, st1⟩ := Y.newCold hexec (own := own) (C := cls) (index := ik) (n := 6) hown' hk' hins hini'
    (g := F0 m pc ls rest) rfl (by rw [hb]; exact d0) (Nat.le_refl _) (Nat.le_refl _)
  generalize hT1 : (T.setVm vm₁).pushCell { cls := cX, slots := kX.instanceTypes.map defaultValue, vm := .none } = T1 at X₁ st1
  have hcat : (Value.ref T.heap.size).category = 1 := rfl
  have hcellA : T1.heap[T.heap.size]? = some (freshCell cX kX) := by rw [← hT1]; exact State.heap_pushCell_size _ _
  have d3' : decode c.code (pc + 3) = .ok (.dup, 1) := by rw [hb]; exact d3
  have d4' : decode c.code (pc + 4) = .ok (.ldc is, 2) := by rw [hb]; exact d4
  have hstr' : vk_R own is text sa s' := vk_R.warm hW0 hstr
  obtain ⟨U, hsteps, hrun, hend, hW, hsame, ce, hce, hO⟩ := X₁.ctorThrowS hexec htr (own := own) (cls := cls) (names := names) (ic := ic) hown' hcls hnames h (fun x hx => nomatch hx) hfX hkX hcellA (by rw [hhp, hT]; exact Nat.le_refl _) (msg := .ref sa) rfl
    (g := { method := m, pc := pc + 6, locals := ls, stack := .ref sa :: .ref T.heap.size :: .ref T.heap.size :: rest, locked := none }) rfl hsize rfl rfl (rest := rest) rfl
    (by rw [hb]; exact d6) (by rw [hb]; exact d9) hout hRframes (by simp only [List.map_cons, List.sum_cons, hcat]; omega) hlocks
  obtain ⟨f1, f2⟩ := vx_frame hsame
  rw [hhp] at f1 f2
  have hWs : s.WarmedH U.vm := State.WarmedH.trans hW0 hW
  have hcl : s.vm.findClass cls = some ce.cls := by
    have h9 := hO.cls
    rw [hvm] at h9
    exact h9
  have hall : s.sameButNew ({ U with vm := s.vm } : State) locs mc ms := by
    subst hA
    obtain ⟨e1, e2⟩ := hsame
    rw [State.setFrames_setFrames] at e1
    have h2 : (T.setVm s.vm).sameButNew ({ U with vm := s.vm } : State) [] (0 + 1) (0 + 6) := ⟨e1, e2⟩
    have h3 := X.same.trans h2
    rw [List.append_nil] at h3
    exact h3.mono hc hs
  refine ⟨U, ?_, .threw T.heap.size, hrun, hend, Or.inr ⟨T.heap.size, rfl, cls, ce, locs, hx U hWs.alike f1 (fun q hq => f2 q hq (fun z hz => nomatch hz)), hce, hO.vm, hcl, hWs, hall, hf⟩⟩
  refine st1 _ ?_
  show Steps p.tables e below (T1.setTop { method := m, pc := pc + 3, locals := ls, stack := .ref T.heap.size :: rest, locked := none }) _
  jvm_step X₁.here [X₁.here.top, hexec, d3', Value.category]
  exact X₁.ldcString hexec (own := own) (text := text) (index := is) (a := sa) hown' hstr'.1 hstr'.2
    (g := { method := m, pc := pc + 4, locals := ls, stack := .ref T.heap.size :: .ref T.heap.size :: rest, locked := none }) rfl d4' _ hsteps
/-- 'throw new E("text")', the text by a wide index -/
theorem vx_throwSW {cc : ByteArray} {pc : Nat} (hexec : p.tables.exec = Jvm.exec) (hb : c.code = cc) (hl : l.stackTraces = false) {own cls text : String} {names : List String} {ik is ic mc ms sa : Nat} {A : Nat → Prop}
    (hown : s.vm.findClass own = some m.cls) (hcls : Bundle.fit cls = true) (hnames : ∀ n ∈ names, Bundle.fit n = true)
    (hk : (Cond.classLink own ik cls).before args s = true) (hini : (Cond.initialized cls).before args s = true) (hstr : vk_R own is text sa s) (hat : ∀ w ∈ vx_atS own ic cls names, w.before args s = true)
    (hgood : ∀ w ∈ Cond.classLink own ik cls :: Cond.initialized cls :: vx_atS own ic cls names, vx_ot w = true)
    (hU : vx_Zq Bundle.tN "UNASSIGNED_STACK" Bundle.steD A s s.heap) (hN : vx_Zq Bundle.tN "SUPPRESSED_SENTINEL" Bundle.listD A s s.heap) (hS : va_S A s.heap H locs) (hsize : ls.size = c.maxLocals)
    (d0 : decode cc pc = .ok (.new ik, 3)) (d3 : decode cc (pc + 3) = .ok (.dup, 1)) (d4 : decode cc (pc + 4) = .ok (.ldc_w is, 3)) (d7 : decode cc (pc + 7) = .ok (.invokespecial ic, 3)) (d10 : decode cc (pc + 10) = .ok (.athrow, 1))
    (hout : ∀ x ∈ c.exceptionTable.toList, covers x (pc + 10) = false)
    (hRframes : names.length + 3 < R.frames) (hRlocals : (rest.map fun v => v.category).sum + (13 * (names.length + 1) + 43) ≤ R.locals) (hRcells : cells + 1 ≤ R.cells) (hRslots : slots + 6 ≤ R.slots) (hlocks : meth.locks = false)
    (hx : ∀ t : State, s.vm.Alike t.vm → H.size ≤ t.heap.size → (∀ q : Nat, q < H.size → t.heap[q]? = H[q]?) → XC cls s t)
    (hf : ∀ z ∈ locs, free z.base) (hc : cells + 1 ≤ mc) (hs : slots + 6 ≤ ms) :
    W p l e R s m args below meth c H locs cells slots (vx_MQ below Qc XC args s mc ms free) (F0 m pc ls rest) := by
  intro T hT X
  have htr : e.platform.stackTraces = false := (show e.platform.stackTraces = l.stackTraces by rw [X.admits.platform]).trans hl
  have Y := vx_rebase X (R' := { frames := R.frames, locals := R.locals, cells := 1, slots := 6 }) (Nat.le_refl _) (Nat.le_refl _) hRcells hRslots
  obtain ⟨s', hA⟩ : ∃ z, z = (T.setVm s.vm).setFrames (.invoking m args :: below) := ⟨_, rfl⟩
  rw [← hA] at Y
  have hvm : s'.vm = s.vm := by rw [hA]; rfl
  have hhp : s'.heap = H := by rw [hA]; exact hT
  have hW0 : s.WarmedH s'.vm := by rw [hvm]; exact State.WarmedH.refl s
  have hat' : ∀ w ∈ vx_atS own ic cls names, w.before args s' = true := fun w hw => vx_ot_at hW0 hvm.symm (hgood w (List.mem_cons_of_mem _ (List.mem_cons_of_mem _ hw))) (hat w hw)
  have hk' : (Cond.classLink own ik cls).before args s' = true := vx_ot_at hW0 hvm.symm (hgood _ List.mem_cons_self) hk
  have hini' : (Cond.initialized cls).before args s' = true := vx_ot_at hW0 hvm.symm (hgood _ (List.mem_cons_of_mem _ List.mem_cons_self)) hini
  have hU' : vx_Zq Bundle.tN "UNASSIGNED_STACK" Bundle.steD A s' s'.heap := by rw [hhp]; exact vx_Zq.moved hW0.alike (hU.kept hS.2.1)
  have hN' : vx_Zq Bundle.tN "SUPPRESSED_SENTINEL" Bundle.listD A s' s'.heap := by rw [hhp]; exact vx_Zq.moved hW0.alike (hN.kept hS.2.1)
  have h : ∀ w ∈ Bundle.ownAtoms own ic cls names, w.before args s' = true := vx_own hat' (vx_isRefq hU'.1) (vx_isRefq hN'.1) hU'.2.word hN'.2.word
  have hown' : s'.vm.findClass own = some m.cls := by rw [hvm]; exact hown
  have hins : (Cond.instantiable cls 6).before args s' = true := h _ (by simp [Bundle.ownAtoms])
  obtain ⟨vm₁, cX, kX, hfX, hkX, -, -, X₁, st1⟩ := Y.newCold hexec (own := own) (C := cls) (index := ik) (n := 6) hown' hk' hins hini'
    (g := F0 m pc ls rest) rfl (by rw [hb]; exact d0) (Nat.le_refl _) (Nat.le_refl _)
  generalize hT1 : (T.setVm vm₁).pushCell { cls := cX, slots := kX.instanceTypes.map defaultValue, vm := .none } = T1 at X₁ st1
  have hcat : (Value.ref T.heap.size).category = 1 := rfl
  have hcellA : T1.heap[T.heap.size]? = some (freshCell cX kX) := by rw [← hT1]; exact State.heap_pushCell_size _ _
  have d3' : decode c.code (pc + 3) = .ok (.dup, 1) := by rw [hb]; exact d3
  have d4' : decode c.code (pc + 4) = .ok (.ldc_w is, 3) := by rw [hb]; exact d4
  have hstr' : vk_R own is text sa s' := vk_R.warm hW0 hstr
  obtain ⟨U, hsteps, hrun, hend, hW, hsame, ce, hce, hO⟩ := X₁.ctorThrowS hexec htr (own := own) (cls := cls) (names := names) (ic := ic) hown' hcls hnames h (fun x hx => nomatch hx) hfX hkX hcellA (by rw [hhp, hT]; exact Nat.le_refl _) (msg := .ref sa) rfl
    (g := { method := m, pc := pc + 7, locals := ls, stack := .ref sa :: .ref T.heap.size :: .ref T.heap.size :: rest, locked := none }) rfl hsize rfl rfl (rest := rest) rfl
    (by rw [hb]; exact d7) (by rw [hb]; exact d10) hout hRframes (by simp only [List.map_cons, List.sum_cons, hcat]; omega) hlocks
  obtain ⟨f1, f2⟩ := vx_frame hsame
  rw [hhp] at f1 f2
  have hWs : s.WarmedH U.vm := State.WarmedH.trans hW0 hW
  have hcl : s.vm.findClass cls = some ce.cls := by
    have h9 := hO.cls
    rw [hvm] at h9
    exact h9
  have hall : s.sameButNew ({ U with vm := s.vm } : State) locs mc ms := by
    subst hA
    obtain ⟨e1, e2⟩ := hsame
    rw [State.setFrames_setFrames] at e1
    have h2 : (T.setVm s.vm).sameButNew ({ U with vm := s.vm } : State) [] (0 + 1) (0 + 6) := ⟨e1, e2⟩
    have h3 := X.same.trans h2
    rw [List.append_nil] at h3
    exact h3.mono hc hs
  refine ⟨U, ?_, .threw T.heap.size, hrun, hend, Or.inr ⟨T.heap.size, rfl, cls, ce, locs, hx U hWs.alike f1 (fun q hq => f2 q hq (fun z hz => nomatch hz)), hce, hO.vm, hcl, hWs, hall, hf⟩⟩
  refine st1 _ ?_
  show Steps p.tables e below (T1.setTop { method := m, pc := pc + 3, locals := ls, stack := .ref T.heap.size :: rest, locked := none }) _
  jvm_step X₁.here [X₁.here.top, hexec, d3', Value.category]
  exact X₁.ldcStringW hexec (own := own) (text := text) (index := is) (a := sa) hown' hstr'.1 hstr'.2
    (g := { method := m, pc := pc + 4, locals := ls, stack := .ref T.heap.size :: .ref T.heap.size :: rest, locked := none }) rfl d4' _ hsteps
end Ends
section Bodies
variable {l : Launch}
theorem vx_ofW {y : MethodName} {ws ws' : List Cond} {rm : Room} {Pc : Array Value → State → Prop} {Qc : Array Value → State → Outcome → State → Prop} {XC : String → State → State → Prop} {mc ms : Nat} {free : Addr → Prop} {cc : ByteArray} {maxL : Nat} {ret : Option FieldType}
    (hy : plainName y.cls = true) (hw : ws = Cond.code y cc maxL ret :: ws')
    (body : ∀ p e s m args below meth c s₁, BodyLoose p l y (headSpec ws rm) cc maxL ret e s m args below meth c s₁ → c.maxLocals = maxL → (∀ x ∈ c.exceptionTable.toList, False) → Pc args s →
      W p l e (headSpec ws rm).room s m args below meth c s.heap [] 0 0 (vx_MQ below Qc XC args s mc ms free) (entryFrame m args maxL)) : vx_Met l y ws rm Pc Qc XC mc ms free := by
  refine MetFree.of_bodyS (code := cc) (maxLocals := maxL) (ret := ret) hy ?_ ?_
  · intro args s m h hn
    obtain ⟨meth, c, h1, h2, h3, h4, h5, h6, -, -⟩ := Cond.code_spec hn (atoms_spec (ws := ws) h _ (by rw [hw]; exact List.mem_cons_self))
    exact ⟨meth, c, h1, h2, h3, h4, h5, h6⟩
  · intro p e s m args below meth c s₁ B hml hP _
    have hh0 : s₁.heap = s.heap := by rw [B.state]; rfl
    have ht : ∀ x ∈ c.exceptionTable.toList, False := by
      obtain ⟨meth9, c9, h1, h2, -, -, -, -, h7, -⟩ := Cond.code_spec B.named (atoms_spec (ws := ws) B.pre _ (by rw [hw]; exact List.mem_cons_self))
      cases Option.some.inj (h1.symm.trans B.method)
      cases Option.some.inj (h2.symm.trans (Stand.of_body B).code)
      intro x hx
      rw [Array.isEmpty_iff.mp h7] at hx
      cases hx
    obtain ⟨t, a1, o, b1, b2, b3⟩ := body p e s m args below meth c s₁ B hml ht hP s₁ hh0 (Stand.of_body B)
    exact ⟨t, o, a1, b1, b2, b3⟩
/-- the table of a body with handlers -/
theorem vx_table {p : Program} {x y : MethodName} {S : Spec} {cc bytes : ByteArray} {maxL maxL' : Nat} {ret ret' : Option FieldType} {e : Env} {s s₁ : State} {m : MethodId} {args : Array Value} {below : List Frame} {meth : Method} {c : Code} {hh : List (Nat × Nat × Nat × Nat)}
    (B : BodyLoose p l y S cc maxL ret e s m args below meth c s₁) (h : (Cond.codeWith y bytes maxL' ret' hh).before args s = true) : c.exceptionTable.toList = tableOf hh := by
  obtain ⟨m9, meth9, c9, hn9, h1, h2, -, -, h6, -⟩ := Cond.codeWith_spec h
  cases Option.some.inj (hn9.symm.trans B.named)
  cases Option.some.inj (h1.symm.trans B.method)
  cases Option.some.inj (h2.symm.trans (Stand.of_body B).code)
  rw [← h6, table_eq]
end Bodies
end VXA
/-! ===== END ===== -/
/-! ===== BEGIN a static call of a method with an exception table ===== -/
section VXS
variable {p : Program} {l : Launch} {e : Env} {R : Room} {s : State} {m : MethodId} {args : Array Value} {below : List Frame} {meth : Method} {c : Code} {T : State} {H : Heap} {locs : List Loc} {cells slots : Nat}
abbrev vx_CSW (R : Room) (s : State) (args : Array Value) (own : String) (index : Nat) (y : MethodName) (bytes : ByteArray) (maxL : Nat) (ret : Option FieldType) (hh : List (Nat × Nat × Nat × Nat)) (ws : List Cond) (rm : Room) (mc ms n : Nat) : Prop :=
  (rm.cells = mc ∧ rm.slots = ms ∧ rm.frames + 1 ≤ R.frames ∧ 8 + (maxL + 11) + rm.locals ≤ R.locals ∧ (∀ w ∈ ws, ∀ (a' : Array Value) (U : State), s.WarmedH U.vm → w.before a' U = true) ∧ Cond.codeWith y bytes maxL ret hh ∈ ws) ∧
  (Cond.codeWith y bytes maxL ret hh).before args s = true ∧ (Cond.initialized y.cls).before args s = true ∧ (y.cls ≠ "java/lang/invoke/MethodHandle" ∧ y.cls ≠ "java/lang/invoke/VarHandle") ∧
  (∀ sig, parseMethodDescriptor y.desc = some sig → n = sig.parameters.length) ∧ (Cond.methodLink own index y).before args s = true ∧ (Cond.static y).before args s = true
theorem vx_cwSW {own : String} {index maxL mc ms : Nat} {y : MethodName} {bytes : ByteArray} {ret : Option FieldType} {hh : List (Nat × Nat × Nat × Nat)} {Ts ws ws' : List Cond} {rm : Room} (n : Nat) (ht : ∀ w ∈ Ts, w.before args s = true) (hT : GoodIn Ts (va_wsS own index y ws)) (hw : ws = Cond.codeWith y bytes maxL ret hh :: ws') (hrc : rm.cells = mc) (hrs : rm.slots = ms)
    (hd : y.cls ≠ "java/lang/invoke/MethodHandle" ∧ y.cls ≠ "java/lang/invoke/VarHandle" ∧ (parseMethodDescriptor y.desc).map (fun d => d.parameters.length) = some n) (hR : rm.frames + 1 ≤ R.frames ∧ 8 + (maxL + 11) + rm.locals ≤ R.locals) :
    vx_CSW R s args own index y bytes maxL ret hh ws rm mc ms n := by
  have ok : ∀ w ∈ va_wsS own index y ws, w.before args s = true := fun w h => ht w (hT w h).1
  have hG : GoodIn Ts ws := fun w h => hT w (by unfold va_wsS; exact List.mem_append_right _ h)
  have hc : Cond.codeWith y bytes maxL ret hh ∈ ws := by rw [hw]; exact List.mem_cons_self
  refine ⟨⟨hrc, hrs, hR.1, hR.2, pay_in ht hG, hc⟩, ht _ (hG _ hc).1, ok _ (by simp [va_wsS]), ⟨hd.1, hd.2.1⟩, fun sig h => ?_, ok _ (by simp [va_wsS]), ok _ (by simp [va_wsS])⟩
  have h2 := hd.2.2
  rw [h] at h2
  exact (Option.some.inj h2).symm
theorem vx_callSW (X : Stand p l e R s m args below meth c T locs cells slots) (hexec : p.tables.exec = Jvm.exec) {own : String} {index : Nat} {y : MethodName} {bytes : ByteArray} {maxL : Nat} {ret : Option FieldType} {hh : List (Nat × Nat × Nat × Nat)}
    (hown : s.vm.findClass own = some m.cls) (hlink : (Cond.methodLink own index y).before args s = true) (hstat : (Cond.static y).before args s = true) (hinit : (Cond.initialized y.cls).before args s = true)
    (hcode : (Cond.codeWith y bytes maxL ret hh).before args s = true) (hy : y.cls ≠ "java/lang/invoke/MethodHandle" ∧ y.cls ≠ "java/lang/invoke/VarHandle")
    {W9 : Nat} {Pre : Pt → Array Value → Prop} {Post : Pt → Array Value → Option Value → Pt → Prop} (hK : Back l R p e below s args y 3 W9 Pre Post)
    {g : JFrame} (hg : g.method = m) (hsize : g.locals.size = c.maxLocals) {argsL rest : List Value} (hlen : ∀ sig, parseMethodDescriptor y.desc = some sig → argsL.length = sig.parameters.length)
    (hstack : g.stack = argsL.reverse ++ rest) (hW : 2 * g.monitorRoom + (rest.map fun v => v.category).sum ≤ W9) (hdg : decode c.code g.pc = .ok (.invokestatic index, 3))
    (hpre : ∀ vm₁, s.WarmedH vm₁ → Pre ⟨T.setVm vm₁, locs, cells, slots⟩ argsL.toArray) :
    ∃ (v : Option Value) (vm₁ : Vm) (B : Pt), s.WarmedH vm₁ ∧ Stand p l e R s m args below meth c B.U B.locs B.cells B.slots ∧ Post ⟨T.setVm vm₁, locs, cells, slots⟩ argsL.toArray v B ∧
      ∀ target, Steps p.tables e below (B.U.setTop { g with pc := g.pc + 3, stack := v.toList ++ rest }) target → Steps p.tables e below (T.setTop g) target := by
  obtain ⟨mk, methM, cM, hnamed, hmethM, -, -, -, -, -, -, hsigM⟩ := Cond.codeWith_spec hcode
  have hstatic : methM.isStatic = true := Cond.static_spec hnamed hmethM hstat
  obtain ⟨kP, hkP, -⟩ := className_of_methodNamed hnamed
  have hinitP : kP.init = .initialized := Cond.initialized_spec (findClass_of_methodNamed hnamed) hkP hinit
  obtain ⟨vm₁, X₁, hstep₁⟩ := X.invokestatic hexec hown hlink hnamed hmethM hstatic hkP hinitP hy (g := g) hg (argsL := argsL) (rest := rest) (hlen _ hsigM) hstack hdg
  obtain ⟨v, B, X', hpost, hsteps⟩ := hK m meth c ⟨T.setVm vm₁, locs, cells, slots⟩ { g with stack := rest } (.invokestatic index) mk argsL.toArray X₁ hg hsize hdg hW (X₁.named hnamed) (hpre vm₁ X₁.warmed)
  exact ⟨v, vm₁, B, X₁.warmed, X', hpost, fun target h => hstep₁ _ fun acts => by rw [doInvoke_state]; exact hsteps.trans h⟩
theorem vx_runSW {y : MethodName} {bytes cc : ByteArray} {maxL nL mc ms n index : Nat} {ret : Option FieldType} {hh : List (Nat × Nat × Nat × Nat)} {ws : List Cond} {rm : Room} {Pc : Array Value → State → Prop} {Qc : Array Value → State → Outcome → State → Prop} {free : Addr → Prop} {Ts : List Cond} {own : String} {As rest : List Value} {g : JFrame}
    (S : CallFix p m c cc nL s args Ts own) (hM : Met l y ws rm Pc Qc mc ms free) (cw : vx_CSW R s args own index y bytes maxL ret hh ws rm mc ms n) (hp : PreS s H Pc As)
    (hg : g.method = m) (hn : As.length = n) (hsize : g.locals.size = nL) (hstack : g.stack = As.reverse ++ rest) (hW : 2 * g.monitorRoom + (rest.map fun v => v.category).sum ≤ 8) (hdg : decode cc g.pc = .ok (.invokestatic index, 3)) (hf : cells + mc ≤ R.cells ∧ slots + ms ≤ R.slots) :
    va_Run p l e R s m args below meth c H locs cells slots mc ms g rest (Qc As.toArray) (free) := by
  obtain ⟨⟨hrc, hrs, hfr, hlo, hws, hcw⟩, hcode, hini, hy, hlen, hl, hstt⟩ := cw
  have hK : Back l R p e below s args y 3 8 (PreOf R mc ms Pc) (PostOf Qc mc ms free) := va_backW (hh := hh) (bytes := bytes) (maxL := maxL) (ret := ret) hM hp.1 hrc hrs hfr hlo hws hcw (fun a' U hW => word_at hW (Or.inl (by first | rfl | simp [Cond.onTables, Cond.keeps, Cond.steady])) hini)
  obtain ⟨hx, hb, hml, ho, -⟩ := S
  intro T hT X
  obtain ⟨v, vm₁, ⟨U', l2, c2, s2⟩, hW₁, X', ⟨g', mk, t, L, e1, e2, hq, h1, hL, h2, h3⟩, st⟩ := vx_callSW X hx (hh := hh) (bytes := bytes) (maxL := maxL) (ret := ret) ho hl hstt hini hcode hy hK hg (hsize.trans hml.symm) (argsL := As) (rest := rest) (fun sig h => hn.trans (hlen sig h)) hstack hW (by rw [hb]; exact hdg)
    (fun vm₁ hW₁ => ⟨hf.1, hf.2, hp.2 (T.setVm vm₁) hT hW₁⟩)
  dsimp only [Pt.U, Pt.locs, Pt.cells, Pt.slots] at X' e1 e2 h1 h2 h3 st
  subst h1; subst h2; subst h3
  exact ⟨v, (T.setVm vm₁).calling g' mk As.toArray, t, U', L, hT, X', hL, e1, e2, hq, st⟩
/-- not caught here, past rows that name other classes: it goes on to the caller -/
theorem vx_outP {p : Program} {l : Launch} {e : Env} {R : Room} {s : State} {m : MethodId} {args : Array Value} {below : List Frame} {meth : Method} {c : Code} {H : Heap} {locs : List Loc} {cells slots : Nat} {free : Addr → Prop} {ls : Array Slot} {rest : List Value} {Qc : Array Value → State → Outcome → State → Prop} {XC : String → State → State → Prop}
    {pc : Nat} {own E : String} {ce : Cell} {q : Addr} {mc ms : Nat} (hown : s.vm.findClass own = some m.cls) (hlocks : meth.locks = false)
    (hpass : ∀ z ∈ c.exceptionTable.toList, covers z pc = false ∨ (z.catchType ≠ 0 ∧ ∃ nm : String, (Cond.classLink own z.catchType nm).before args s = true ∧ va_Nc E nm s)) (hcell : H[q]? = some ce) (hv : ce.vm = .none) (hcl : s.vm.findClass E = some ce.cls)
    (hx : ∀ t : State, t.heap = H → s.vm.Alike t.vm → XC E s t) (hf : ∀ z ∈ locs, free z.base) (hc : cells ≤ mc) (hs : slots ≤ ms) :
    vx_W p l e R s m args below meth c H locs cells slots (vx_MQ below Qc XC args s mc ms free) (F0 m pc ls rest) q := by
  intro T hT X
  have hpl : e.platform.magicAccessors = ({} : Platform).magicAccessors := by rw [X.admits.platform]
  obtain ⟨vm', hW', X', st⟩ := X.outThrough hlocks q (g := F0 m pc ls rest) rfl rfl rfl (cell := ce) (by rw [hT]; exact hcell) (by rw [hv]; rfl)
    (by obtain ⟨k9, h9, -⟩ := Vm.findClass_spec hcl; exact ⟨k9, h9⟩) (fun z hz => by
      rcases hpass z hz with h | ⟨hz0, nm, hl1, hn1⟩
      · exact Or.inl h
      · obtain ⟨c6, hc6, hcl6⟩ := Cond.classLink_spec hown hl1 e.platform hpl
        obtain ⟨a8, b8, h1, h2, h3⟩ := hn1
        cases Option.some.inj (h1.symm.trans hcl)
        cases Option.some.inj (h2.symm.trans hc6)
        exact Or.inr ⟨hz0, _, hcl6, h3⟩)
  obtain ⟨g₀, hfr⟩ := X'.frames_eq
  have hcell9 : ((T.setVm vm').setFrames (.throwing q :: below)).heap[q]? = some ce := by
    show T.heap[q]? = some ce
    rw [hT]; exact hcell
  have hend : Ended ((T.setVm vm').setFrames (.throwing q :: below)) below (.threw q) := State.frames_setFrames _ (State.cur_lt_of_frames hfr)
  refine ⟨(T.setVm vm').setFrames (.throwing q :: below), ?_, .threw q, X'.here.running, hend, Or.inr ⟨q, rfl, E, ce, locs, hx _ hT (X'.ends _).1.alike, hcell9, hv, hcl, (X'.ends _).1, (X'.ends _).2.mono hc hs, hf⟩⟩
  rw [X.pushThrowing_eq]
  exact st
/-- a thing of a world lies in the heap -/
theorem vx_lt {D : va_G} {cl : List vw_C} {ws : va_W} {H1 : Heap} (h : va_P D cl ws H1) {k : Nat} {q : Nat × va_E} (hk : ws[k]? = some q) : q.1 < H1.size := (h k q hk).lt
end VXS
/-! ===== END ===== -/
/-! ===== BEGIN methods with a table of their own: called by a name, returning or throwing ===== -/
section VXH
/-! vx_backW, vx_callVX, vx_callSX, vx_callVW, vx_runVW, vx_runVX, vx_runSX, vx_ofWH follow the same proofs as their sisters above (Free/Laws.lean, Shelf42/LK1.lean); vx_outP calls Shelf42/NT130.lean (outThrough). -/
section
variable {l : Launch} {R : Room} {p : Program} {e : Env} {below : List Frame} {s : State} {sargs : Array Value} {y : MethodName} {len W9 : Nat}
theorem vx_backW {ws : List Cond} {rm : Room} {Pc : Array Value → State → Prop} {Qc : Array Value → State → Outcome → State → Prop} {XC : String → State → State → Prop} {mc ms : Nat} {free : Addr → Prop} {bytes : ByteArray} {maxL : Nat} {ret : Option FieldType} {hh : List (Nat × Nat × Nat × Nat)}
    (hM : vx_Met l y ws rm Pc Qc XC mc ms free) (hblind : FrameBlind Pc) (hrc : rm.cells = mc) (hrs : rm.slots = ms)
    (hframes : rm.frames + 1 ≤ R.frames) (hlocals : W9 + (maxL + 11) + rm.locals ≤ R.locals)
    (hws : ∀ w ∈ ws, ∀ a' U, s.WarmedH U.vm → w.before a' U = true) (hcode : Cond.codeWith y bytes maxL ret hh ∈ ws) (hinit : ∀ a' U, s.WarmedH U.vm → (Cond.initialized y.cls).before a' U = true) :
    vx_Back l R p e below s sargs y len W9 (PreOf R mc ms Pc) (PostOf Qc mc ms free) (vx_Post XC mc ms free) := by
  intro m meth c A g ig mk a X hg hsize hdg hW hn hp
  have h1 : (headSpec ws rm).pre.before a A.U = true := atoms_intro fun w hw => hws w hw _ _ X.warmed
  have h2 : (Cond.codeWith y bytes maxL ret hh).before a A.U = true := hws _ hcode _ _ X.warmed
  have h3 : (Cond.initialized y.cls).before a A.U = true := hinit _ _ X.warmed
  have h4 : A.cells + (headSpec ws rm).room.cells ≤ R.cells := by rw [show (headSpec ws rm).room.cells = mc from hrc]; exact hp.1
  have h5 : A.slots + (headSpec ws rm).room.slots ≤ R.slots := by rw [show (headSpec ws rm).room.slots = ms from hrs]; exact hp.2.1
  have hPc : Pc a (A.U.calling g mk a) := hblind _ _ _ _ hp.2.2
  obtain ⟨U, Ls, c0, s0⟩ := A
  dsimp only [Pt.U, Pt.locs, Pt.cells, Pt.slots] at h1 h2 h3 h4 h5 X hn hPc ⊢
  obtain ⟨m9, methY, cY, hn9, hmY, hcY, -, hlY, -⟩ := Cond.codeWith_spec h2
  cases Option.some.inj (hn9.symm.trans hn)
  obtain ⟨kY, hkY, -⟩ := className_of_methodNamed hn
  have hinitY : kY.init = .initialized := Cond.initialized_spec (findClass_of_methodNamed hn) hkY h3
  have h : At U g.method c below := by rw [hg]; exact X.here
  have hlocals9 : W9 + (maxL + 11) + (headSpec ws rm).room.locals ≤ R.locals := hlocals
  have happ : (headSpec ws rm).appliesLoose y e.platform (U.calling g mk a) = true :=
    Spec.appliesLoose_calling (g := g) h hdg hn hkY hinitY
      (X.room_calling (g := g) (R' := (headSpec ws rm).room) hsize hmY hcY hframes (by rw [hlY]; omega) h4 h5) h1
  obtain ⟨mid, hmid⟩ := h.above
  have hfr : (U.setTop g).frames = (.java g :: mid) ++ below := by rw [State.frames_setTop' g h.top, hmid]; rfl
  obtain ⟨o, s₂, hsteps, -, hend, hq⟩ := Steps.callFree hM p X.admits X.cas X.clock (acts := []) hfr happ hPc trivial
  have hq' : vx_Q Qc XC mc ms free a (U.calling g mk a) o s₂ := hq
  rw [State.frames_setTop' g h.top] at hend
  obtain ⟨g₀, hg0⟩ := Option.isSome_iff_exists.mp h.top
  obtain ⟨r, hr⟩ := State.topJava?_eq_some.mp hg0
  have hr' : (({ U with heap := s₂.heap, slotsUsed := s₂.slotsUsed } : State).setVm s₂.vm).frames = .java g₀ :: r := hr
  rcases hq' with ⟨hqc, L, hfe, hL⟩ | ⟨q, rfl, E, ce, L, hx, hce, hcv, hcl, hW₂, hsm, hL⟩
  · obtain ⟨⟨v, rfl⟩, hW₂, e2, q2, q3, q4, q5, q6⟩ := id hfe
    have e3 : s₂ = ({ (U.calling g mk a).setFrames s₂.frames with heap := s₂.heap, slotsUsed := s₂.slotsUsed } : State).setVm s₂.vm := by
      have : s₂ = ({ s₂ with vm := (U.calling g mk a).vm } : State).setVm s₂.vm := rfl
      rw [e2] at this
      exact this
    obtain ⟨c₂, i₂, len₂, hc₂, hd₂, hf₂⟩ := hend
    have hW' : U.WarmedH s₂.vm := hW₂
    have hcc : c₂ = c := by
      have h1 : s₂.code? g.method = U.code? g.method := by
        rw [State.code?_eq, State.code?_eq, hW'.alike.method?]
      exact Option.some.inj (hc₂.symm.trans (h1.trans h.code))
    subst hcc
    have hlen : len₂ = len := by rw [hdg] at hd₂; cases hd₂; rfl
    subst hlen
    have hs₂ : s₂ = (({ U with heap := s₂.heap, slotsUsed := s₂.slotsUsed } : State).setVm s₂.vm).setTop { g with pc := g.pc + len₂, stack := v.toList ++ g.stack } := by
      refine e3.trans ?_
      rw [hf₂, State.calling_eq h.top, State.setFrames_setFrames, State.setTop_of_frames _ hr', hr]
      rfl
    have hsame : U.sameButNew ({ U with heap := s₂.heap, slotsUsed := s₂.slotsUsed } : State) L mc ms := by
      refine ⟨?_, q2, q3, q4, q5, q6⟩
      obtain ⟨t, ht, -⟩ := State.frames_cons hr
      show ({ U with heap := s₂.heap, slotsUsed := s₂.slotsUsed } : State) = { U.setFrames U.frames with heap := s₂.heap, slotsUsed := s₂.slotsUsed }
      rw [State.setFrames_self ht]
    subst hg
    refine Or.inl ⟨v, ⟨(({ U with heap := s₂.heap, slotsUsed := s₂.slotsUsed } : State).setVm s₂.vm), Ls ++ L, c0 + mc, s0 + ms⟩,
      ⟨X.admits, X.cas, X.clock, X.frames, X.room, X.hears, X.method, X.code, (X.here.setHeapUsed s₂.heap s₂.slotsUsed).setVm hW'.alike, X.tail, State.WarmedH.trans X.warmed hW', X.limits, X.bytes, X.same.trans (hsame.setVm s.vm)⟩,
      ⟨g, mk, s₂, L, rfl, rfl, hqc, rfl, hL, rfl, rfl⟩, ?_⟩
    show Steps p.tables e below _ ((({ U with heap := s₂.heap, slotsUsed := s₂.slotsUsed } : State).setVm s₂.vm).setTop { g with pc := g.pc + len₂, stack := v.toList ++ g.stack })
    rw [← hs₂]
    exact hsteps
  · obtain ⟨e2, q2, q3, q4, q5, q6⟩ := id hsm
    have e3 : s₂ = ({ (U.calling g mk a).setFrames s₂.frames with heap := s₂.heap, slotsUsed := s₂.slotsUsed } : State).setVm s₂.vm := by
      have : s₂ = ({ s₂ with vm := (U.calling g mk a).vm } : State).setVm s₂.vm := rfl
      rw [e2] at this
      exact this
    have hf₂ : s₂.frames = .throwing q :: .java g :: U.frames.tail := hend
    have hW' : U.WarmedH s₂.vm := hW₂
    have hs₂ : s₂ = ((({ U with heap := s₂.heap, slotsUsed := s₂.slotsUsed } : State).setVm s₂.vm).setTop g).pushFrame (.throwing q) := by
      refine e3.trans ?_
      rw [hf₂, State.calling_eq h.top, State.setFrames_setFrames, State.pushFrame, State.frames_setTop _ hr', State.setTop_of_frames _ hr', State.setFrames_setFrames, hr]
      rfl
    have hsame : U.sameButNew ({ U with heap := s₂.heap, slotsUsed := s₂.slotsUsed } : State) L mc ms := by
      refine ⟨?_, q2, q3, q4, q5, q6⟩
      obtain ⟨t, ht, -⟩ := State.frames_cons hr
      show ({ U with heap := s₂.heap, slotsUsed := s₂.slotsUsed } : State) = { U.setFrames U.frames with heap := s₂.heap, slotsUsed := s₂.slotsUsed }
      rw [State.setFrames_self ht]
    subst hg
    refine Or.inr ⟨q, ⟨(({ U with heap := s₂.heap, slotsUsed := s₂.slotsUsed } : State).setVm s₂.vm), Ls ++ L, c0 + mc, s0 + ms⟩,
      ⟨X.admits, X.cas, X.clock, X.frames, X.room, X.hears, X.method, X.code, (X.here.setHeapUsed s₂.heap s₂.slotsUsed).setVm hW'.alike, X.tail, State.WarmedH.trans X.warmed hW', X.limits, X.bytes, X.same.trans (hsame.setVm s.vm)⟩,
      ⟨g, mk, s₂, L, E, ce, rfl, rfl, hx, hce, hcv, hcl, rfl, hL, rfl, rfl⟩, ?_⟩
    show Steps p.tables e below _ (((({ U with heap := s₂.heap, slotsUsed := s₂.slotsUsed } : State).setVm s₂.vm).setTop g).pushFrame (.throwing q))
    rw [← hs₂]
    exact hsteps
end
variable {p : Program} {l : Launch} {e : Env} {R : Room} {s : State} {m : MethodId} {args : Array Value} {below : List Frame} {meth : Method} {c : Code} {T : State} {H : Heap} {locs : List Loc} {cells slots : Nat}
theorem vx_callVX (X : Stand p l e R s m args below meth c T locs cells slots) (hexec : p.tables.exec = Jvm.exec) {own C : String} {index : Nat} {y : MethodName} {bytes : ByteArray} {maxL : Nat} {ret : Option FieldType} {hh : List (Nat × Nat × Nat × Nat)}
    (hown : s.vm.findClass own = some m.cls) (hlink : (Cond.methodLink own index y).before args s = true) (hinst : (Cond.instanceMethod y).before args s = true) (hsel : (Cond.selects C y y).before args s = true)
    (hcode : (Cond.codeWith y bytes maxL ret hh).before args s = true) (hy : y.cls ≠ "java/lang/invoke/MethodHandle" ∧ y.cls ≠ "java/lang/invoke/VarHandle")
    {W9 : Nat} {Pre : Pt → Array Value → Prop} {Post : Pt → Array Value → Option Value → Pt → Prop} {PostX : Pt → Array Value → Addr → Pt → Prop} (hK : vx_Back l R p e below s args y 3 W9 Pre Post PostX)
    {b : Addr} {cellB : Cell} (hcell : T.heap[b]? = some cellB) (hobj : cellB.vm.isStatics = false) (hcls : s.vm.findClass C = some cellB.cls)
    {g : JFrame} (hg : g.method = m) (hsize : g.locals.size = c.maxLocals) {argsL rest : List Value} (hlen : ∀ sig, parseMethodDescriptor y.desc = some sig → argsL.length = sig.parameters.length)
    (hstack : g.stack = argsL.reverse ++ .ref b :: rest) (hW : 2 * g.monitorRoom + (rest.map fun v => v.category).sum ≤ W9) (hdg : decode c.code g.pc = .ok (.invokevirtual index, 3))
    (hpre : ∀ vm₁, s.WarmedH vm₁ → Pre ⟨T.setVm vm₁, locs, cells, slots⟩ (Value.ref b :: argsL).toArray) :
    (∃ (v : Option Value) (vm₁ : Vm) (B : Pt), s.WarmedH vm₁ ∧ Stand p l e R s m args below meth c B.U B.locs B.cells B.slots ∧ Post ⟨T.setVm vm₁, locs, cells, slots⟩ (Value.ref b :: argsL).toArray v B ∧
      ∀ target, Steps p.tables e below (B.U.setTop { g with pc := g.pc + 3, stack := v.toList ++ rest }) target → Steps p.tables e below (T.setTop g) target) ∨
    (∃ (q : Addr) (vm₁ : Vm) (B : Pt), s.WarmedH vm₁ ∧ Stand p l e R s m args below meth c B.U B.locs B.cells B.slots ∧ PostX ⟨T.setVm vm₁, locs, cells, slots⟩ (Value.ref b :: argsL).toArray q B ∧
      Steps p.tables e below (T.setTop g) ((B.U.setTop { g with stack := rest }).pushFrame (.throwing q))) := by
  obtain ⟨mk, methM, hnamed, hmethM, hstM, habM⟩ := Cond.instanceMethod_spec hinst
  obtain ⟨m8, methM', cM, hn8, hmethM', -, -, -, -, -, -, hsigM⟩ := Cond.codeWith_spec hcode
  cases Option.some.inj (hn8.symm.trans hnamed)
  cases hmethM.symm.trans hmethM'
  obtain ⟨c2, r2, m2, q1, q2, q3, q4, kP, hkP, hkPi⟩ := Cond.selects_spec hsel
  cases hcls.symm.trans q1
  cases (State.methodFound?_of_named hnamed hy).symm.trans q2
  cases hnamed.symm.trans q3
  have hselP : selectMethod e.platform s.vm cellB.cls mk = .method mk := by rw [Launch.admits_selectMethod X.admits]; exact q4
  obtain ⟨vm₁, X₁, hstep₁⟩ := X.invokevirtual hexec hown hlink hnamed hmethM hstM hkP hkPi hy (a := b) (cell := cellB) hcell
    (fun z h => by rw [h] at hobj; cases hobj) hselP hmethM habM hkP hkPi (g := g) hg (argsL := argsL) (rest := rest) (hlen _ hsigM) hstack hdg
  rcases hK m meth c ⟨T.setVm vm₁, locs, cells, slots⟩ { g with stack := rest } (.invokevirtual index) mk (Value.ref b :: argsL).toArray X₁ hg hsize hdg hW (X₁.named hnamed) (hpre vm₁ X₁.warmed) with ⟨v, B, X', hpost, hsteps⟩ | ⟨q, B, X', hpost, hsteps⟩
  · exact Or.inl ⟨v, vm₁, B, X₁.warmed, X', hpost, fun target h => hstep₁ _ fun acts => by rw [doInvoke_state]; exact hsteps.trans h⟩
  · exact Or.inr ⟨q, vm₁, B, X₁.warmed, X', hpost, hstep₁ _ fun acts => by rw [doInvoke_state]; exact hsteps⟩
theorem vx_callSX (X : Stand p l e R s m args below meth c T locs cells slots) (hexec : p.tables.exec = Jvm.exec) {own : String} {index : Nat} {y : MethodName} {bytes : ByteArray} {maxL : Nat} {ret : Option FieldType} {hh : List (Nat × Nat × Nat × Nat)}
    (hown : s.vm.findClass own = some m.cls) (hlink : (Cond.methodLink own index y).before args s = true) (hstat : (Cond.static y).before args s = true) (hinit : (Cond.initialized y.cls).before args s = true)
    (hcode : (Cond.codeWith y bytes maxL ret hh).before args s = true) (hy : y.cls ≠ "java/lang/invoke/MethodHandle" ∧ y.cls ≠ "java/lang/invoke/VarHandle")
    {W9 : Nat} {Pre : Pt → Array Value → Prop} {Post : Pt → Array Value → Option Value → Pt → Prop} {PostX : Pt → Array Value → Addr → Pt → Prop} (hK : vx_Back l R p e below s args y 3 W9 Pre Post PostX)
    {g : JFrame} (hg : g.method = m) (hsize : g.locals.size = c.maxLocals) {argsL rest : List Value} (hlen : ∀ sig, parseMethodDescriptor y.desc = some sig → argsL.length = sig.parameters.length)
    (hstack : g.stack = argsL.reverse ++ rest) (hW : 2 * g.monitorRoom + (rest.map fun v => v.category).sum ≤ W9) (hdg : decode c.code g.pc = .ok (.invokestatic index, 3))
    (hpre : ∀ vm₁, s.WarmedH vm₁ → Pre ⟨T.setVm vm₁, locs, cells, slots⟩ argsL.toArray) :
    (∃ (v : Option Value) (vm₁ : Vm) (B : Pt), s.WarmedH vm₁ ∧ Stand p l e R s m args below meth c B.U B.locs B.cells B.slots ∧ Post ⟨T.setVm vm₁, locs, cells, slots⟩ argsL.toArray v B ∧
      ∀ target, Steps p.tables e below (B.U.setTop { g with pc := g.pc + 3, stack := v.toList ++ rest }) target → Steps p.tables e below (T.setTop g) target) ∨
    (∃ (q : Addr) (vm₁ : Vm) (B : Pt), s.WarmedH vm₁ ∧ Stand p l e R s m args below meth c B.U B.locs B.cells B.slots ∧ PostX ⟨T.setVm vm₁, locs, cells, slots⟩ argsL.toArray q B ∧
      Steps p.tables e below (T.setTop g) ((B.U.setTop { g with stack := rest }).pushFrame (.throwing q))) := by
  obtain ⟨mk, methM, cM, hnamed, hmethM, -, -, -, -, -, -, hsigM⟩ := Cond.codeWith_spec hcode
  have hstatic : methM.isStatic = true := Cond.static_spec hnamed hmethM hstat
  obtain ⟨kP, hkP, -⟩ := className_of_methodNamed hnamed
  have hinitP : kP.init = .initialized := Cond.initialized_spec (findClass_of_methodNamed hnamed) hkP hinit
  obtain ⟨vm₁, X₁, hstep₁⟩ := X.invokestatic hexec hown hlink hnamed hmethM hstatic hkP hinitP hy (g := g) hg (argsL := argsL) (rest := rest) (hlen _ hsigM) hstack hdg
  rcases hK m meth c ⟨T.setVm vm₁, locs, cells, slots⟩ { g with stack := rest } (.invokestatic index) mk argsL.toArray X₁ hg hsize hdg hW (X₁.named hnamed) (hpre vm₁ X₁.warmed) with ⟨v, B, X', hpost, hsteps⟩ | ⟨q, B, X', hpost, hsteps⟩
  · exact Or.inl ⟨v, vm₁, B, X₁.warmed, X', hpost, fun target h => hstep₁ _ fun acts => by rw [doInvoke_state]; exact hsteps.trans h⟩
  · exact Or.inr ⟨q, vm₁, B, X₁.warmed, X', hpost, hstep₁ _ fun acts => by rw [doInvoke_state]; exact hsteps⟩
theorem vx_callVW (X : Stand p l e R s m args below meth c T locs cells slots) (hexec : p.tables.exec = Jvm.exec) {own C : String} {index : Nat} {y : MethodName} {bytes : ByteArray} {maxL : Nat} {ret : Option FieldType} {hh : List (Nat × Nat × Nat × Nat)}
    (hown : s.vm.findClass own = some m.cls) (hlink : (Cond.methodLink own index y).before args s = true) (hinst : (Cond.instanceMethod y).before args s = true) (hsel : (Cond.selects C y y).before args s = true)
    (hcode : (Cond.codeWith y bytes maxL ret hh).before args s = true) (hy : y.cls ≠ "java/lang/invoke/MethodHandle" ∧ y.cls ≠ "java/lang/invoke/VarHandle")
    {W9 : Nat} {Pre : Pt → Array Value → Prop} {Post : Pt → Array Value → Option Value → Pt → Prop} (hK : Back l R p e below s args y 3 W9 Pre Post)
    {b : Addr} {cellB : Cell} (hcell : T.heap[b]? = some cellB) (hobj : cellB.vm.isStatics = false) (hcls : s.vm.findClass C = some cellB.cls)
    {g : JFrame} (hg : g.method = m) (hsize : g.locals.size = c.maxLocals) {argsL rest : List Value} (hlen : ∀ sig, parseMethodDescriptor y.desc = some sig → argsL.length = sig.parameters.length)
    (hstack : g.stack = argsL.reverse ++ .ref b :: rest) (hW : 2 * g.monitorRoom + (rest.map fun v => v.category).sum ≤ W9) (hdg : decode c.code g.pc = .ok (.invokevirtual index, 3))
    (hpre : ∀ vm₁, s.WarmedH vm₁ → Pre ⟨T.setVm vm₁, locs, cells, slots⟩ (Value.ref b :: argsL).toArray) :
    ∃ (v : Option Value) (vm₁ : Vm) (B : Pt), s.WarmedH vm₁ ∧ Stand p l e R s m args below meth c B.U B.locs B.cells B.slots ∧ Post ⟨T.setVm vm₁, locs, cells, slots⟩ (Value.ref b :: argsL).toArray v B ∧
      ∀ target, Steps p.tables e below (B.U.setTop { g with pc := g.pc + 3, stack := v.toList ++ rest }) target → Steps p.tables e below (T.setTop g) target := by
  obtain ⟨mk, methM, hnamed, hmethM, hstM, habM⟩ := Cond.instanceMethod_spec hinst
  obtain ⟨m8, methM', cM, hn8, hmethM', -, -, -, -, -, -, hsigM⟩ := Cond.codeWith_spec hcode
  cases Option.some.inj (hn8.symm.trans hnamed)
  cases hmethM.symm.trans hmethM'
  obtain ⟨c2, r2, m2, q1, q2, q3, q4, kP, hkP, hkPi⟩ := Cond.selects_spec hsel
  cases hcls.symm.trans q1
  cases (State.methodFound?_of_named hnamed hy).symm.trans q2
  cases hnamed.symm.trans q3
  have hselP : selectMethod e.platform s.vm cellB.cls mk = .method mk := by rw [Launch.admits_selectMethod X.admits]; exact q4
  obtain ⟨vm₁, X₁, hstep₁⟩ := X.invokevirtual hexec hown hlink hnamed hmethM hstM hkP hkPi hy (a := b) (cell := cellB) hcell
    (fun z h => by rw [h] at hobj; cases hobj) hselP hmethM habM hkP hkPi (g := g) hg (argsL := argsL) (rest := rest) (hlen _ hsigM) hstack hdg
  obtain ⟨v, B, X', hpost, hsteps⟩ := hK m meth c ⟨T.setVm vm₁, locs, cells, slots⟩ { g with stack := rest } (.invokevirtual index) mk (Value.ref b :: argsL).toArray X₁ hg hsize hdg hW (X₁.named hnamed) (hpre vm₁ X₁.warmed)
  exact ⟨v, vm₁, B, X₁.warmed, X', hpost, fun target h => hstep₁ _ fun acts => by rw [doInvoke_state]; exact hsteps.trans h⟩
abbrev vx_CVW (R : Room) (s : State) (args : Array Value) (own C : String) (index : Nat) (y : MethodName) (bytes : ByteArray) (maxL : Nat) (ret : Option FieldType) (hh : List (Nat × Nat × Nat × Nat)) (ws : List Cond) (rm : Room) (mc ms n : Nat) : Prop :=
  (rm.cells = mc ∧ rm.slots = ms ∧ rm.frames + 1 ≤ R.frames ∧ 8 + (maxL + 11) + rm.locals ≤ R.locals ∧ (∀ w ∈ ws, ∀ (a' : Array Value) (U : State), s.WarmedH U.vm → w.before a' U = true) ∧ Cond.codeWith y bytes maxL ret hh ∈ ws) ∧
  (Cond.codeWith y bytes maxL ret hh).before args s = true ∧ (Cond.initialized y.cls).before args s = true ∧ (y.cls ≠ "java/lang/invoke/MethodHandle" ∧ y.cls ≠ "java/lang/invoke/VarHandle") ∧
  (∀ sig, parseMethodDescriptor y.desc = some sig → n = sig.parameters.length) ∧ (Cond.methodLink own index y).before args s = true ∧ (Cond.instanceMethod y).before args s = true ∧ (Cond.selects C y y).before args s = true
theorem vx_cwVW {own C : String} {index maxL mc ms : Nat} {y : MethodName} {bytes : ByteArray} {ret : Option FieldType} {hh : List (Nat × Nat × Nat × Nat)} {Ts ws ws' : List Cond} {rm : Room} (n : Nat) (ht : ∀ w ∈ Ts, w.before args s = true) (hT : GoodIn Ts (wsV own index C y ws)) (hw : ws = Cond.codeWith y bytes maxL ret hh :: ws') (hrc : rm.cells = mc) (hrs : rm.slots = ms)
    (hd : y.cls = C ∧ y.cls ≠ "java/lang/invoke/MethodHandle" ∧ y.cls ≠ "java/lang/invoke/VarHandle" ∧ (parseMethodDescriptor y.desc).map (fun d => d.parameters.length) = some n) (hR : rm.frames + 1 ≤ R.frames ∧ 8 + (maxL + 11) + rm.locals ≤ R.locals) :
    vx_CVW R s args own C index y bytes maxL ret hh ws rm mc ms n := by
  obtain ⟨hC, hd⟩ := hd
  subst hC
  have ok : ∀ w ∈ wsV own index y.cls y ws, w.before args s = true := fun w h => ht w (hT w h).1
  have hG : GoodIn Ts ws := fun w h => hT w (by unfold wsV; exact List.mem_append_right _ h)
  have hc : Cond.codeWith y bytes maxL ret hh ∈ ws := by rw [hw]; exact List.mem_cons_self
  refine ⟨⟨hrc, hrs, hR.1, hR.2, pay_in ht hG, hc⟩, ht _ (hG _ hc).1, ok _ (by simp [wsV]), ⟨hd.1, hd.2.1⟩, fun sig h => ?_, ok _ (by simp [wsV]), ok _ (by simp [wsV]), ok _ (by simp [wsV])⟩
  have h2 := hd.2.2
  rw [h] at h2
  exact (Option.some.inj h2).symm
theorem vx_runVW {y : MethodName} {bytes cc : ByteArray} {maxL nL mc ms n index : Nat} {ret : Option FieldType} {hh : List (Nat × Nat × Nat × Nat)} {ws : List Cond} {rm : Room} {Pc : Array Value → State → Prop} {Qc : Array Value → State → Outcome → State → Prop} {free : Addr → Prop} {Ts : List Cond} {own C : String} {b : Addr} {As rest : List Value} {g : JFrame}
    (S : CallFix p m c cc nL s args Ts own) (hM : Met l y ws rm Pc Qc mc ms free) (cw : vx_CVW R s args own C index y bytes maxL ret hh ws rm mc ms n) (hp : PreV s H C b Pc As)
    (hg : g.method = m) (hn : As.length = n) (hsize : g.locals.size = nL) (hstack : g.stack = As.reverse ++ .ref b :: rest) (hW : 2 * g.monitorRoom + (rest.map fun v => v.category).sum ≤ 8) (hdg : decode cc g.pc = .ok (.invokevirtual index, 3)) (hf : cells + mc ≤ R.cells ∧ slots + ms ≤ R.slots) :
    va_Run p l e R s m args below meth c H locs cells slots mc ms g rest (Qc (Value.ref b :: As).toArray) free := by
  obtain ⟨⟨hrc, hrs, hfr, hlo, hws, hcw⟩, hcode, hini, hy, hlen, hl, hin, hse⟩ := cw
  have hK : Back l R p e below s args y 3 8 (PreOf R mc ms Pc) (PostOf Qc mc ms free) := va_backW (hh := hh) (bytes := bytes) (maxL := maxL) (ret := ret) hM hp.1 hrc hrs hfr hlo hws hcw (fun a' U hW => word_at hW (Or.inl (by first | rfl | simp [Cond.onTables, Cond.keeps, Cond.steady])) hini)
  obtain ⟨hx, hb, hml, ho, -⟩ := S
  obtain ⟨-, ⟨cellB, hcB, hoB, hclB⟩, hPc⟩ := hp
  intro T hT X
  obtain ⟨v, vm₁, ⟨U', l2, c2, s2⟩, hW₁, X', ⟨g', mk, t, L, e1, e2, hq, h1, hL, h2, h3⟩, st⟩ := vx_callVW X hx (C := C) (hh := hh) (bytes := bytes) (maxL := maxL) (ret := ret) ho hl hin hse hcode hy hK (by rw [hT]; exact hcB) hoB hclB hg (hsize.trans hml.symm) (argsL := As) (rest := rest) (fun sig h => hn.trans (hlen sig h)) hstack hW (by rw [hb]; exact hdg)
    (fun vm₁ hW₁ => ⟨hf.1, hf.2, hPc (T.setVm vm₁) hT hW₁⟩)
  dsimp only [Pt.U, Pt.locs, Pt.cells, Pt.slots] at X' e1 e2 h1 h2 h3 st
  subst h1; subst h2; subst h3
  exact ⟨v, (T.setVm vm₁).calling g' mk (Value.ref b :: As).toArray, t, U', L, hT, X', hL, e1, e2, hq, st⟩
section
variable {y : MethodName} {bytes cc : ByteArray} {maxL nL mc ms n index : Nat} {ret : Option FieldType} {ws : List Cond} {rm : Room} {Pc : Array Value → State → Prop} {Qc : Array Value → State → Outcome → State → Prop} {XC : String → State → State → Prop} {free : Addr → Prop} {Ts : List Cond} {own C : String} {b : Addr} {As rest : List Value} {g : JFrame}
theorem vx_runVX {hh : List (Nat × Nat × Nat × Nat)} (S : CallFix p m c cc nL s args Ts own) (hM : vx_Met l y ws rm Pc Qc XC mc ms free) (cw : vx_CVW R s args own C index y bytes maxL ret hh ws rm mc ms n) (hp : PreV s H C b Pc As)
    (hg : g.method = m) (hn : As.length = n) (hsize : g.locals.size = nL) (hstack : g.stack = As.reverse ++ .ref b :: rest) (hW : 2 * g.monitorRoom + (rest.map fun v => v.category).sum ≤ 8) (hdg : decode cc g.pc = .ok (.invokevirtual index, 3)) (hf : cells + mc ≤ R.cells ∧ slots + ms ≤ R.slots) :
    vx_Run p l e R s m args below meth c H locs cells slots mc ms g rest (Qc (Value.ref b :: As).toArray) XC free := by
  obtain ⟨⟨hrc, hrs, hfr, hlo, hws, hcw⟩, hcode, hini, hy, hlen, hl, hin, hse⟩ := cw
  have hK : vx_Back l R p e below s args y 3 8 (PreOf R mc ms Pc) (PostOf Qc mc ms free) (vx_Post XC mc ms free) := vx_backW (hh := hh) (bytes := bytes) (maxL := maxL) (ret := ret) hM hp.1 hrc hrs hfr hlo hws hcw (fun a' U hW => word_at hW (Or.inl (by first | rfl | simp [Cond.onTables, Cond.keeps, Cond.steady])) hini)
  obtain ⟨hx, hb, hml, ho, -⟩ := S
  obtain ⟨-, ⟨cellB, hcB, hoB, hclB⟩, hPc⟩ := hp
  intro T hT X
  rcases vx_callVX X hx (C := C) (hh := hh) (bytes := bytes) (maxL := maxL) (ret := ret) ho hl hin hse hcode hy hK (by rw [hT]; exact hcB) hoB hclB hg (hsize.trans hml.symm) (argsL := As) (rest := rest) (fun sig h => hn.trans (hlen sig h)) hstack hW (by rw [hb]; exact hdg)
    (fun vm₁ hW₁ => ⟨hf.1, hf.2, hPc (T.setVm vm₁) hT hW₁⟩) with ⟨v, vm₁, ⟨U', l2, c2, s2⟩, hW₁, X', ⟨g', mk, t, L, e1, e2, hq, h1, hL, h2, h3⟩, st⟩ | ⟨q, vm₁, ⟨U', l2, c2, s2⟩, hW₁, X', ⟨g', mk, t, L, E, ce, e1, e2, hq, hce, hcv, hcl, h1, hL, h2, h3⟩, st⟩
  · dsimp only [Pt.U, Pt.locs, Pt.cells, Pt.slots] at X' e1 e2 h1 h2 h3 st
    subst h1; subst h2; subst h3
    exact Or.inl ⟨v, (T.setVm vm₁).calling g' mk (Value.ref b :: As).toArray, t, U', L, hT, X', hL, e1, e2, hq, st⟩
  · dsimp only [Pt.U, Pt.locs, Pt.cells, Pt.slots] at X' e1 e2 h1 h2 h3 st hcl
    subst h1; subst h2; subst h3
    exact Or.inr ⟨q, (T.setVm vm₁).calling g' mk (Value.ref b :: As).toArray, t, U', L, E, ce, hT, X', hL, e1, e2, hq, hce, hcv, vx_cls hW₁ hcl, st⟩
theorem vx_runSX {hh : List (Nat × Nat × Nat × Nat)} (S : CallFix p m c cc nL s args Ts own) (hM : vx_Met l y ws rm Pc Qc XC mc ms free) (cw : vx_CSW R s args own index y bytes maxL ret hh ws rm mc ms n) (hp : PreS s H Pc As)
    (hg : g.method = m) (hn : As.length = n) (hsize : g.locals.size = nL) (hstack : g.stack = As.reverse ++ rest) (hW : 2 * g.monitorRoom + (rest.map fun v => v.category).sum ≤ 8) (hdg : decode cc g.pc = .ok (.invokestatic index, 3)) (hf : cells + mc ≤ R.cells ∧ slots + ms ≤ R.slots) :
    vx_Run p l e R s m args below meth c H locs cells slots mc ms g rest (Qc As.toArray) XC free := by
  obtain ⟨⟨hrc, hrs, hfr, hlo, hws, hcw⟩, hcode, hini, hy, hlen, hl, hstt⟩ := cw
  have hK : vx_Back l R p e below s args y 3 8 (PreOf R mc ms Pc) (PostOf Qc mc ms free) (vx_Post XC mc ms free) := vx_backW (hh := hh) (bytes := bytes) (maxL := maxL) (ret := ret) hM hp.1 hrc hrs hfr hlo hws hcw (fun a' U hW => word_at hW (Or.inl (by first | rfl | simp [Cond.onTables, Cond.keeps, Cond.steady])) hini)
  obtain ⟨hx, hb, hml, ho, -⟩ := S
  intro T hT X
  rcases vx_callSX X hx (hh := hh) (bytes := bytes) (maxL := maxL) (ret := ret) ho hl hstt hini hcode hy hK hg (hsize.trans hml.symm) (argsL := As) (rest := rest) (fun sig h => hn.trans (hlen sig h)) hstack hW (by rw [hb]; exact hdg)
    (fun vm₁ hW₁ => ⟨hf.1, hf.2, hp.2 (T.setVm vm₁) hT hW₁⟩) with ⟨v, vm₁, ⟨U', l2, c2, s2⟩, hW₁, X', ⟨g', mk, t, L, e1, e2, hq, h1, hL, h2, h3⟩, st⟩ | ⟨q, vm₁, ⟨U', l2, c2, s2⟩, hW₁, X', ⟨g', mk, t, L, E, ce, e1, e2, hq, hce, hcv, hcl, h1, hL, h2, h3⟩, st⟩
  · dsimp only [Pt.U, Pt.locs, Pt.cells, Pt.slots] at X' e1 e2 h1 h2 h3 st
    subst h1; subst h2; subst h3
    exact Or.inl ⟨v, (T.setVm vm₁).calling g' mk As.toArray, t, U', L, hT, X', hL, e1, e2, hq, st⟩
  · dsimp only [Pt.U, Pt.locs, Pt.cells, Pt.slots] at X' e1 e2 h1 h2 h3 st hcl
    subst h1; subst h2; subst h3
    exact Or.inr ⟨q, (T.setVm vm₁).calling g' mk As.toArray, t, U', L, E, ce, hT, X', hL, e1, e2, hq, hce, hcv, vx_cls hW₁ hcl, st⟩
end
end VXH
theorem vx_ofWH {l : Launch} {y : MethodName} {ws ws' : List Cond} {rm : Room} {Pc : Array Value → State → Prop} {Qc : Array Value → State → Outcome → State → Prop} {XC : String → State → State → Prop} {mc ms : Nat} {free : Addr → Prop} {cc : ByteArray} {maxL : Nat} {ret : Option FieldType} {hh : List (Nat × Nat × Nat × Nat)}
    (hy : plainName y.cls = true) (hw : ws = Cond.codeWith y cc maxL ret hh :: ws')
    (body : ∀ p e s m args below meth c s₁, BodyLoose p l y (headSpec ws rm) cc maxL ret e s m args below meth c s₁ → c.maxLocals = maxL → Pc args s →
      W p l e (headSpec ws rm).room s m args below meth c s.heap [] 0 0 (vx_MQ below Qc XC args s mc ms free) (entryFrame m args maxL)) : vx_Met l y ws rm Pc Qc XC mc ms free := by
  refine MetFree.of_bodyS (code := cc) (maxLocals := maxL) (ret := ret) hy ?_ ?_
  · intro args s m h hn
    obtain ⟨m9, meth, c, hn9, h1, h2, h3, h4, -, h5, h6, -⟩ := Cond.codeWith_spec (atoms_spec (ws := ws) h _ (by rw [hw]; exact List.mem_cons_self))
    cases hn.symm.trans hn9
    exact ⟨meth, c, h1, h2, h3, h4, h5, h6⟩
  · intro p e s m args below meth c s₁ B hml hP _
    have hh0 : s₁.heap = s.heap := by rw [B.state]; rfl
    obtain ⟨t, a1, o, b1, b2, b3⟩ := body p e s m args below meth c s₁ B hml hP s₁ hh0 (Stand.of_body B)
    exact ⟨t, o, a1, b1, b2, b3⟩
/-! ===== END ===== -/
end
section
/-! ===== BEGIN printed: names, fields, word lists, decode rows ===== -/
def RX0 : String := "PairedTumblers$Discs"
def TX0 : u_T := fun k => match k with
  | 0 => ("PairedTumblers$Discs", "disc", "[I", true)
  | _ => ("PairedTumblers$Discs", "notch", "[I", true)
def tyX0 : Nat → FieldType := fun k => match k with
  | 0 => .array .int
  | _ => .array .int
abbrev wsX00 : List Cond := u_ws RX0 TX0 2
theorem nmX0 : ∀ a, a < 2 → ∀ b, b < 2 → a ≠ b → (TX0 a).2.1 ≠ (TX0 b).2.1 := by decide +kernel
theorem tyX0_ok : ∀ k, k < 2 → parseFieldDescriptor (TX0 k).2.2.1 = some (tyX0 k) := by decide +kernel
abbrev cX0_init : ByteArray := prog_2_method_1_code
def yX0_init : MethodName := ⟨RX0, "<init>", "()V"⟩
abbrev cX0_discAt : ByteArray := prog_2_method_2_code
def yX0_discAt : MethodName := ⟨RX0, "discAt", "(I)I"⟩
abbrev cX0_notchAt : ByteArray := prog_2_method_3_code
def yX0_notchAt : MethodName := ⟨RX0, "notchAt", "(I)I"⟩
abbrev cX0_agreesAt : ByteArray := prog_2_method_4_code
def yX0_agreesAt : MethodName := ⟨RX0, "agreesAt", "(LPairedTumblers$Discs;I)Z"⟩
abbrev cX0_bringHome : ByteArray := prog_2_method_5_code
def yX0_bringHome : MethodName := ⟨RX0, "bringHome", "()V"⟩
abbrev cX0_copyFrom : ByteArray := prog_2_method_6_code
def yX0_copyFrom : MethodName := ⟨RX0, "copyFrom", "(LPairedTumblers$Discs;)V"⟩
abbrev cX0_rotate : ByteArray := prog_2_method_7_code
def yX0_rotate : MethodName := ⟨RX0, "rotate", "(IIZ)V"⟩
abbrev cX0_putAhead : ByteArray := prog_2_method_8_code
def yX0_putAhead : MethodName := ⟨RX0, "putAhead", "(LPairedTumblers$Discs;)V"⟩
abbrev cX0_reach : ByteArray := prog_2_method_9_code
def yX0_reach : MethodName := ⟨RX0, "reach", "()I"⟩
abbrev cX0_notchSum : ByteArray := prog_2_method_10_code
def yX0_notchSum : MethodName := ⟨RX0, "notchSum", "()I"⟩
abbrev cX0_agreeing : ByteArray := prog_2_method_11_code
def yX0_agreeing : MethodName := ⟨RX0, "agreeing", "(LPairedTumblers$Discs;)I"⟩
abbrev cX0_fingerprint : ByteArray := prog_2_method_12_code
def yX0_fingerprint : MethodName := ⟨RX0, "fingerprint", "()I"⟩
abbrev cX0_periodByRounds : ByteArray := prog_2_method_13_code
def yX0_periodByRounds : MethodName := ⟨RX0, "periodByRounds", "()I"⟩
abbrev cX0_placeOf : ByteArray := prog_2_method_14_code
def yX0_placeOf : MethodName := ⟨RX0, "placeOf", "(I)I"⟩
abbrev cX0_leastMultiple : ByteArray := prog_2_method_15_code
def yX0_leastMultiple : MethodName := ⟨RX0, "leastMultiple", "(II)I"⟩
def RX1 : String := "PairedTumblers$Keys"
def TX1 : u_T := fun k => match k with
  | 0 => ("PairedTumblers$Keys", "mask", "[I", true)
  | _ => ("PairedTumblers$Keys", "strength", "[I", true)
def tyX1 : Nat → FieldType := fun k => match k with
  | 0 => .array .int
  | _ => .array .int
abbrev wsX10 : List Cond := u_ws RX1 TX1 2
theorem nmX1 : ∀ a, a < 2 → ∀ b, b < 2 → a ≠ b → (TX1 a).2.1 ≠ (TX1 b).2.1 := by decide +kernel
theorem tyX1_ok : ∀ k, k < 2 → parseFieldDescriptor (TX1 k).2.2.1 = some (tyX1 k) := by decide +kernel
abbrev cX1_init : ByteArray := prog_3_method_1_code
def yX1_init : MethodName := ⟨RX1, "<init>", "()V"⟩
abbrev cX1_maskOf : ByteArray := prog_3_method_2_code
def yX1_maskOf : MethodName := ⟨RX1, "maskOf", "(I)I"⟩
abbrev cX1_strengthOf : ByteArray := prog_3_method_3_code
def yX1_strengthOf : MethodName := ⟨RX1, "strengthOf", "(I)I"⟩
abbrev cX1_shape : ByteArray := prog_3_method_4_code
def yX1_shape : MethodName := ⟨RX1, "shape", "(III)V"⟩
abbrev cX1_keysAt : ByteArray := prog_3_method_5_code
def yX1_keysAt : MethodName := ⟨RX1, "keysAt", "(I)I"⟩
abbrev cX1_move : ByteArray := prog_3_method_6_code
def yX1_move : MethodName := ⟨RX1, "move", "(LPairedTumblers$Discs;I)V"⟩
abbrev cX1_notchesBy : ByteArray := prog_3_method_7_code
def yX1_notchesBy : MethodName := ⟨RX1, "notchesBy", "(I)I"⟩
abbrev cX1_copyFrom : ByteArray := prog_3_method_8_code
def yX1_copyFrom : MethodName := ⟨RX1, "copyFrom", "(LPairedTumblers$Keys;)V"⟩
def RX2 : String := "PairedTumblers$Opener"
def TX2 : u_T := fun k => match k with
  | 0 => ("PairedTumblers$Opener", "near", "[I", true)
  | 1 => ("PairedTumblers$Opener", "nearTurns", "[I", true)
  | 2 => ("PairedTumblers$Opener", "size", "I", false)
  | 3 => ("PairedTumblers$Opener", "one", "LPairedTumblers$Discs;", true)
  | 4 => ("PairedTumblers$Opener", "two", "LPairedTumblers$Discs;", true)
  | 5 => ("PairedTumblers$Opener", "fewest", "I", false)
  | _ => ("PairedTumblers$Opener", "first", "I", false)
def tyX2 : Nat → FieldType := fun k => match k with
  | 0 => .array .int
  | 1 => .array .int
  | 2 => .int
  | 3 => .object "PairedTumblers$Discs"
  | 4 => .object "PairedTumblers$Discs"
  | 5 => .int
  | _ => .int
abbrev wsX20 : List Cond := u_ws RX2 TX2 7
theorem nmX2 : ∀ a, a < 7 → ∀ b, b < 7 → a ≠ b → (TX2 a).2.1 ≠ (TX2 b).2.1 := by decide +kernel
theorem tyX2_ok : ∀ k, k < 7 → parseFieldDescriptor (TX2 k).2.2.1 = some (tyX2 k) := by decide +kernel
abbrev cX2_init : ByteArray := prog_4_method_1_code
def yX2_init : MethodName := ⟨RX2, "<init>", "()V"⟩
abbrev cX2_search : ByteArray := prog_4_method_2_code
def yX2_search : MethodName := ⟨RX2, "search", "(LPairedTumblers$State;)V"⟩
abbrev cX2_tryFirst : ByteArray := prog_4_method_3_code
def yX2_tryFirst : MethodName := ⟨RX2, "tryFirst", "(LPairedTumblers$State;I)V"⟩
abbrev cX2_meetsList : ByteArray := prog_4_method_4_code
def yX2_meetsList : MethodName := ⟨RX2, "meetsList", "(LPairedTumblers$State;)Z"⟩
abbrev cX2_listNear : ByteArray := prog_4_method_5_code
def yX2_listNear : MethodName := ⟨RX2, "listNear", "(LPairedTumblers$State;)V"⟩
abbrev cX2_listBehindOne : ByteArray := prog_4_method_6_code
def yX2_listBehindOne : MethodName := ⟨RX2, "listBehindOne", "(LPairedTumblers$State;)V"⟩
abbrev cX2_list : ByteArray := prog_4_method_7_code
def yX2_list : MethodName := ⟨RX2, "list", "(LPairedTumblers$Discs;I)V"⟩
abbrev cX2_listedTurns : ByteArray := prog_4_method_8_code
def yX2_listedTurns : MethodName := ⟨RX2, "listedTurns", "(LPairedTumblers$Discs;)I"⟩
def RX3 : String := "PairedTumblers$State"
def TX3 : u_T := fun k => match k with
  | 0 => ("PairedTumblers$State", "discs", "LPairedTumblers$Discs;", true)
  | 1 => ("PairedTumblers$State", "keys", "LPairedTumblers$Keys;", true)
  | 2 => ("PairedTumblers$State", "secret", "LPairedTumblers$Discs;", true)
  | 3 => ("PairedTumblers$State", "hasSecret", "Z", false)
  | 4 => ("PairedTumblers$State", "stuck", "I", false)
  | 5 => ("PairedTumblers$State", "uses", "[I", true)
  | 6 => ("PairedTumblers$State", "turns", "I", false)
  | 7 => ("PairedTumblers$State", "account", "I", false)
  | _ => ("PairedTumblers$State", "openings", "I", false)
def tyX3 : Nat → FieldType := fun k => match k with
  | 0 => .object "PairedTumblers$Discs"
  | 1 => .object "PairedTumblers$Keys"
  | 2 => .object "PairedTumblers$Discs"
  | 3 => .boolean
  | 4 => .int
  | 5 => .array .int
  | 6 => .int
  | 7 => .int
  | _ => .int
abbrev wsX30 : List Cond := u_ws RX3 TX3 9
theorem nmX3 : ∀ a, a < 9 → ∀ b, b < 9 → a ≠ b → (TX3 a).2.1 ≠ (TX3 b).2.1 := by decide +kernel
theorem tyX3_ok : ∀ k, k < 9 → parseFieldDescriptor (TX3 k).2.2.1 = some (tyX3 k) := by decide +kernel
abbrev cX3_init : ByteArray := prog_5_method_1_code
def yX3_init : MethodName := ⟨RX3, "<init>", "()V"⟩
abbrev cX3_copyFrom : ByteArray := prog_5_method_2_code
def yX3_copyFrom : MethodName := ⟨RX3, "copyFrom", "(LPairedTumblers$State;)V"⟩
abbrev cX3_allows : ByteArray := prog_5_method_3_code
def yX3_allows : MethodName := ⟨RX3, "allows", "(I)Z"⟩
abbrev cX3_stuckKeys : ByteArray := prog_5_method_4_code
def yX3_stuckKeys : MethodName := ⟨RX3, "stuckKeys", "()I"⟩
abbrev cX3_usesOf : ByteArray := prog_5_method_5_code
def yX3_usesOf : MethodName := ⟨RX3, "usesOf", "(I)I"⟩
abbrev cX3_asInSecret : ByteArray := prog_5_method_6_code
def yX3_asInSecret : MethodName := ⟨RX3, "asInSecret", "(LPairedTumblers$Discs;)I"⟩
abbrev cX3_opens : ByteArray := prog_5_method_7_code
def yX3_opens : MethodName := ⟨RX3, "opens", "()Z"⟩
abbrev cX3_doMove : ByteArray := prog_5_method_8_code
def yX3_doMove : MethodName := ⟨RX3, "doMove", "(I)V"⟩
def RX4 : String := "PairedTumblers$WordText"
def TX4 : u_T := fun k => match k with
  | 0 => ("PairedTumblers$WordText", "sign", "[C", true)
  | 1 => ("PairedTumblers$WordText", "length", "I", false)
  | 2 => ("PairedTumblers$WordText", "moves", "[I", true)
  | 3 => ("PairedTumblers$WordText", "total", "I", false)
  | 4 => ("PairedTumblers$WordText", "complete", "Z", false)
  | 5 => ("PairedTumblers$WordText", "kind", "[I", true)
  | 6 => ("PairedTumblers$WordText", "begin", "[I", true)
  | 7 => ("PairedTumblers$WordText", "middle", "[I", true)
  | 8 => ("PairedTumblers$WordText", "open", "I", false)
  | 9 => ("PairedTumblers$WordText", "hasItem", "Z", false)
  | _ => ("PairedTumblers$WordText", "wantsFigure", "Z", false)
def tyX4 : Nat → FieldType := fun k => match k with
  | 0 => .array .char
  | 1 => .int
  | 2 => .array .int
  | 3 => .int
  | 4 => .boolean
  | 5 => .array .int
  | 6 => .array .int
  | 7 => .array .int
  | 8 => .int
  | 9 => .boolean
  | _ => .boolean
abbrev wsX40 : List Cond := u_ws RX4 TX4 11
theorem nmX4 : ∀ a, a < 11 → ∀ b, b < 11 → a ≠ b → (TX4 a).2.1 ≠ (TX4 b).2.1 := by decide +kernel
theorem tyX4_ok : ∀ k, k < 11 → parseFieldDescriptor (TX4 k).2.2.1 = some (tyX4 k) := by decide +kernel
abbrev cX4_init : ByteArray := prog_6_method_1_code
def yX4_init : MethodName := ⟨RX4, "<init>", "()V"⟩
abbrev cX4_addSign : ByteArray := prog_6_method_2_code
def yX4_addSign : MethodName := ⟨RX4, "addSign", "(C)V"⟩
abbrev cX4_signAt : ByteArray := prog_6_method_3_code
def yX4_signAt : MethodName := ⟨RX4, "signAt", "(I)C"⟩
abbrev cX4_moveAt : ByteArray := prog_6_method_4_code
def yX4_moveAt : MethodName := ⟨RX4, "moveAt", "(I)I"⟩
abbrev cX4_turnsLessBacks : ByteArray := prog_6_method_5_code
def yX4_turnsLessBacks : MethodName := ⟨RX4, "turnsLessBacks", "()I"⟩
abbrev cX4_read : ByteArray := prog_6_method_6_code
def yX4_read : MethodName := ⟨RX4, "read", "()I"⟩
abbrev cX4_takes : ByteArray := prog_6_method_7_code
def yX4_takes : MethodName := ⟨RX4, "takes", "(C)Z"⟩
abbrev cX4_takesMove : ByteArray := prog_6_method_8_code
def yX4_takesMove : MethodName := ⟨RX4, "takesMove", "(I)Z"⟩
abbrev cX4_takesOpening : ByteArray := prog_6_method_9_code
def yX4_takesOpening : MethodName := ⟨RX4, "takesOpening", "(I)Z"⟩
abbrev cX4_takesInBracket : ByteArray := prog_6_method_10_code
def yX4_takesInBracket : MethodName := ⟨RX4, "takesInBracket", "(C)Z"⟩
abbrev cX4_takesFigure : ByteArray := prog_6_method_11_code
def yX4_takesFigure : MethodName := ⟨RX4, "takesFigure", "(C)Z"⟩
abbrev cX4_addMove : ByteArray := prog_6_method_12_code
def yX4_addMove : MethodName := ⟨RX4, "addMove", "(I)V"⟩
abbrev cX4_repeat : ByteArray := prog_6_method_13_code
def yX4_repeat : MethodName := ⟨RX4, "repeat", "(II)V"⟩
abbrev cX4_addOpposite : ByteArray := prog_6_method_14_code
def yX4_addOpposite : MethodName := ⟨RX4, "addOpposite", "(III)V"⟩
def RX5 : String := "PairedTumblers"
def TX5 : u_T := fun k => match k with
  | 0 => ("PairedTumblers", "now", "LPairedTumblers$State;", true)
  | 1 => ("PairedTumblers", "snapshot", "LPairedTumblers$State;", true)
  | 2 => ("PairedTumblers", "hasSnapshot", "Z", false)
  | 3 => ("PairedTumblers", "saved", "[LPairedTumblers$State;", true)
  | 4 => ("PairedTumblers", "savedCount", "I", false)
  | 5 => ("PairedTumblers", "text", "LPairedTumblers$WordText;", true)
  | 6 => ("PairedTumblers", "effect", "LPairedTumblers$Discs;", true)
  | 7 => ("PairedTumblers", "trial", "LPairedTumblers$Discs;", true)
  | _ => ("PairedTumblers", "opener", "LPairedTumblers$Opener;", true)
def tyX5 : Nat → FieldType := fun k => match k with
  | 0 => .object "PairedTumblers$State"
  | 1 => .object "PairedTumblers$State"
  | 2 => .boolean
  | 3 => .array (.object "PairedTumblers$State")
  | 4 => .int
  | 5 => .object "PairedTumblers$WordText"
  | 6 => .object "PairedTumblers$Discs"
  | 7 => .object "PairedTumblers$Discs"
  | _ => .object "PairedTumblers$Opener"
abbrev wsX50 : List Cond := u_ws RX5 TX5 9
theorem nmX5 : ∀ a, a < 9 → ∀ b, b < 9 → a ≠ b → (TX5 a).2.1 ≠ (TX5 b).2.1 := by decide +kernel
theorem tyX5_ok : ∀ k, k < 9 → parseFieldDescriptor (TX5 k).2.2.1 = some (tyX5 k) := by decide +kernel
abbrev cX5_init : ByteArray := prog_1_method_1_code
def yX5_init : MethodName := ⟨RX5, "<init>", "()V"⟩
abbrev cX5_turn : ByteArray := prog_1_method_2_code
def yX5_turn : MethodName := ⟨RX5, "turn", "(I)I"⟩
abbrev cX5_back : ByteArray := prog_1_method_3_code
def yX5_back : MethodName := ⟨RX5, "back", "(I)I"⟩
abbrev cX5_word : ByteArray := prog_1_method_4_code
def yX5_word : MethodName := ⟨RX5, "word", "()I"⟩
abbrev cX5_home : ByteArray := prog_1_method_5_code
def yX5_home : MethodName := ⟨RX5, "home", "()I"⟩
abbrev cX5_cut : ByteArray := prog_1_method_6_code
def yX5_cut : MethodName := ⟨RX5, "cut", "(III)I"⟩
abbrev cX5_stick : ByteArray := prog_1_method_7_code
def yX5_stick : MethodName := ⟨RX5, "stick", "(I)I"⟩
abbrev cX5_learn : ByteArray := prog_1_method_8_code
def yX5_learn : MethodName := ⟨RX5, "learn", "()I"⟩
abbrev cX5_append : ByteArray := prog_1_method_9_code
def yX5_append : MethodName := ⟨RX5, "append", "(I)I"⟩
abbrev cX5_clearBuffer : ByteArray := prog_1_method_10_code
def yX5_clearBuffer : MethodName := ⟨RX5, "clearBuffer", "()I"⟩
abbrev cX5_firstError : ByteArray := prog_1_method_11_code
def yX5_firstError : MethodName := ⟨RX5, "firstError", "()I"⟩
abbrev cX5_keep : ByteArray := prog_1_method_12_code
def yX5_keep : MethodName := ⟨RX5, "keep", "()I"⟩
abbrev cX5_goBack : ByteArray := prog_1_method_13_code
def yX5_goBack : MethodName := ⟨RX5, "goBack", "()I"⟩
abbrev cX5_undo : ByteArray := prog_1_method_14_code
def yX5_undo : MethodName := ⟨RX5, "undo", "()I"⟩
abbrev cX5_at : ByteArray := prog_1_method_15_code
def yX5_at : MethodName := ⟨RX5, "at", "(II)I"⟩
abbrev cX5_key : ByteArray := prog_1_method_16_code
def yX5_key : MethodName := ⟨RX5, "key", "(II)I"⟩
abbrev cX5_pair : ByteArray := prog_1_method_17_code
def yX5_pair : MethodName := ⟨RX5, "pair", "(III)I"⟩
abbrev cX5_ofWord : ByteArray := prog_1_method_18_code
def yX5_ofWord : MethodName := ⟨RX5, "ofWord", "(I)I"⟩
abbrev cX5_count : ByteArray := prog_1_method_19_code
def yX5_count : MethodName := ⟨RX5, "count", "(I)I"⟩
abbrev cX5_openIn : ByteArray := prog_1_method_20_code
def yX5_openIn : MethodName := ⟨RX5, "openIn", "(I)I"⟩
abbrev cX5_ifTurned : ByteArray := prog_1_method_21_code
def yX5_ifTurned : MethodName := ⟨RX5, "ifTurned", "(II)I"⟩
abbrev cX5_closest : ByteArray := prog_1_method_22_code
def yX5_closest : MethodName := ⟨RX5, "closest", "()I"⟩
abbrev cX5_openShare : ByteArray := prog_1_method_23_code
def yX5_openShare : MethodName := ⟨RX5, "openShare", "()D"⟩
abbrev cX5_meanNotch : ByteArray := prog_1_method_24_code
def yX5_meanNotch : MethodName := ⟨RX5, "meanNotch", "()F"⟩
abbrev cX5_digest : ByteArray := prog_1_method_25_code
def yX5_digest : MethodName := ⟨RX5, "digest", "()J"⟩
abbrev cX5_requireKey : ByteArray := prog_1_method_26_code
def yX5_requireKey : MethodName := ⟨RX5, "requireKey", "(I)V"⟩
abbrev cX5_requirePosition : ByteArray := prog_1_method_27_code
def yX5_requirePosition : MethodName := ⟨RX5, "requirePosition", "(I)V"⟩
abbrev cX5_isKeyMask : ByteArray := prog_1_method_28_code
def yX5_isKeyMask : MethodName := ⟨RX5, "isKeyMask", "(I)Z"⟩
abbrev cX5_turnOnce : ByteArray := prog_1_method_29_code
def yX5_turnOnce : MethodName := ⟨RX5, "turnOnce", "(IZ)I"⟩
abbrev cX5_save : ByteArray := prog_1_method_30_code
def yX5_save : MethodName := ⟨RX5, "save", "()V"⟩
abbrev cX5_writeSaved : ByteArray := prog_1_method_31_code
def yX5_writeSaved : MethodName := ⟨RX5, "writeSaved", "(LPairedTumblers$State;)V"⟩
abbrev cX5_dropOldest : ByteArray := prog_1_method_32_code
def yX5_dropOldest : MethodName := ⟨RX5, "dropOldest", "()V"⟩
abbrev cX5_showKey : ByteArray := prog_1_method_33_code
def yX5_showKey : MethodName := ⟨RX5, "showKey", "(I)V"⟩
abbrev cX5_showPair : ByteArray := prog_1_method_34_code
def yX5_showPair : MethodName := ⟨RX5, "showPair", "(II)V"⟩
abbrev cX5_showWord : ByteArray := prog_1_method_35_code
def yX5_showWord : MethodName := ⟨RX5, "showWord", "()V"⟩
abbrev cX5_ofShortWord : ByteArray := prog_1_method_36_code
def yX5_ofShortWord : MethodName := ⟨RX5, "ofShortWord", "(I)I"⟩
abbrev cX5_periodByDoing : ByteArray := prog_1_method_37_code
def yX5_periodByDoing : MethodName := ⟨RX5, "periodByDoing", "()I"⟩
abbrev cX5_mix : ByteArray := prog_1_method_38_code
def yX5_mix : MethodName := ⟨RX5, "mix", "(JJ)J"⟩
abbrev cX5_mixPositions : ByteArray := prog_1_method_39_code
def yX5_mixPositions : MethodName := ⟨RX5, "mixPositions", "(J)J"⟩
abbrev cX5_mixKeys : ByteArray := prog_1_method_40_code
def yX5_mixKeys : MethodName := ⟨RX5, "mixKeys", "(J)J"⟩
abbrev cX5_mixPairs : ByteArray := prog_1_method_41_code
def yX5_mixPairs : MethodName := ⟨RX5, "mixPairs", "(J)J"⟩
abbrev cX5_mixBuffer : ByteArray := prog_1_method_42_code
def yX5_mixBuffer : MethodName := ⟨RX5, "mixBuffer", "(J)J"⟩
abbrev cX5_doubleBits : ByteArray := prog_1_method_43_code
def yX5_doubleBits : MethodName := ⟨RX5, "doubleBits", "(D)J"⟩
abbrev cX5_floatBits : ByteArray := prog_1_method_44_code
def yX5_floatBits : MethodName := ⟨RX5, "floatBits", "(F)I"⟩
abbrev cX5_moveOf : ByteArray := prog_1_method_45_code
def yX5_moveOf : MethodName := ⟨RX5, "moveOf", "(IZ)I"⟩
abbrev cX5_isBack : ByteArray := prog_1_method_46_code
def yX5_isBack : MethodName := ⟨RX5, "isBack", "(I)Z"⟩
abbrev cX5_keyOf : ByteArray := prog_1_method_47_code
def yX5_keyOf : MethodName := ⟨RX5, "keyOf", "(I)I"⟩
abbrev cX5_opposite : ByteArray := prog_1_method_48_code
def yX5_opposite : MethodName := ⟨RX5, "opposite", "(I)I"⟩
def RX6 : String := "PairedTumblersModel"
def TX6 : u_T := fun k => match k with
  | 0 => ("PairedTumblersModel", "thrown", "I", false)
  | 1 => ("PairedTumblersModel", "z", "[I", true)
  | 2 => ("PairedTumblersModel", "aside", "[I", true)
  | 3 => ("PairedTumblersModel", "saved", "[I", true)
  | 4 => ("PairedTumblersModel", "saves", "I", false)
  | 5 => ("PairedTumblersModel", "kept", "[I", true)
  | 6 => ("PairedTumblersModel", "isKept", "Z", false)
  | 7 => ("PairedTumblersModel", "text", "[I", true)
  | 8 => ("PairedTumblersModel", "length", "I", false)
  | 9 => ("PairedTumblersModel", "was", "[I", true)
  | 10 => ("PairedTumblersModel", "word", "[I", true)
  | 11 => ("PairedTumblersModel", "turns", "I", false)
  | 12 => ("PairedTumblersModel", "sum", "I", false)
  | 13 => ("PairedTumblersModel", "bracket", "[I", true)
  | 14 => ("PairedTumblersModel", "begin", "[I", true)
  | 15 => ("PairedTumblersModel", "middle", "[I", true)
  | 16 => ("PairedTumblersModel", "ahead", "[I", true)
  | 17 => ("PairedTumblersModel", "part", "[I", true)
  | 18 => ("PairedTumblersModel", "open", "I", false)
  | 19 => ("PairedTumblersModel", "isFilled", "Z", false)
  | _ => ("PairedTumblersModel", "needsFigure", "Z", false)
def tyX6 : Nat → FieldType := fun k => match k with
  | 0 => .int
  | 1 => .array .int
  | 2 => .array .int
  | 3 => .array .int
  | 4 => .int
  | 5 => .array .int
  | 6 => .boolean
  | 7 => .array .int
  | 8 => .int
  | 9 => .array .int
  | 10 => .array .int
  | 11 => .int
  | 12 => .int
  | 13 => .array .int
  | 14 => .array .int
  | 15 => .array .int
  | 16 => .array .int
  | 17 => .array .int
  | 18 => .int
  | 19 => .boolean
  | _ => .boolean
abbrev wsX60 : List Cond := u_ws RX6 TX6 21
theorem nmX6 : ∀ a, a < 21 → ∀ b, b < 21 → a ≠ b → (TX6 a).2.1 ≠ (TX6 b).2.1 := by decide +kernel
theorem tyX6_ok : ∀ k, k < 21 → parseFieldDescriptor (TX6 k).2.2.1 = some (tyX6 k) := by decide +kernel
abbrev cX6_init : ByteArray := prog_8_method_1_code
def yX6_init : MethodName := ⟨RX6, "<init>", "()V"⟩
abbrev cX6_thrown : ByteArray := prog_8_method_2_code
def yX6_thrown : MethodName := ⟨RX6, "thrown", "()I"⟩
abbrev cX6_in : ByteArray := prog_8_method_3_code
def yX6_in : MethodName := ⟨RX6, "in", "(III)Z"⟩
abbrev cX6_isKey : ByteArray := prog_8_method_4_code
def yX6_isKey : MethodName := ⟨RX6, "isKey", "(I)Z"⟩
abbrev cX6_isPlace : ByteArray := prog_8_method_5_code
def yX6_isPlace : MethodName := ⟨RX6, "isPlace", "(I)Z"⟩
abbrev cX6_has : ByteArray := prog_8_method_6_code
def yX6_has : MethodName := ⟨RX6, "has", "(II)Z"⟩
abbrev cX6_ones : ByteArray := prog_8_method_7_code
def yX6_ones : MethodName := ⟨RX6, "ones", "(I)I"⟩
abbrev cX6_record : ByteArray := prog_8_method_8_code
def yX6_record : MethodName := ⟨RX6, "record", "()V"⟩
abbrev cX6_undo : ByteArray := prog_8_method_9_code
def yX6_undo : MethodName := ⟨RX6, "undo", "()I"⟩
abbrev cX6_keep : ByteArray := prog_8_method_10_code
def yX6_keep : MethodName := ⟨RX6, "keep", "()I"⟩
abbrev cX6_goBack : ByteArray := prog_8_method_11_code
def yX6_goBack : MethodName := ⟨RX6, "goBack", "()I"⟩
abbrev cX6_putAside : ByteArray := prog_8_method_12_code
def yX6_putAside : MethodName := ⟨RX6, "putAside", "()V"⟩
abbrev cX6_putBack : ByteArray := prog_8_method_13_code
def yX6_putBack : MethodName := ⟨RX6, "putBack", "()V"⟩
abbrev cX6_toFirst : ByteArray := prog_8_method_14_code
def yX6_toFirst : MethodName := ⟨RX6, "toFirst", "()V"⟩
abbrev cX6_next : ByteArray := prog_8_method_15_code
def yX6_next : MethodName := ⟨RX6, "next", "(II)I"⟩
abbrev cX6_doTurn : ByteArray := prog_8_method_16_code
def yX6_doTurn : MethodName := ⟨RX6, "doTurn", "(I)V"⟩
abbrev cX6_isStuck : ByteArray := prog_8_method_17_code
def yX6_isStuck : MethodName := ⟨RX6, "isStuck", "(I)Z"⟩
abbrev cX6_isRight : ByteArray := prog_8_method_18_code
def yX6_isRight : MethodName := ⟨RX6, "isRight", "(I)Z"⟩
abbrev cX6_right : ByteArray := prog_8_method_19_code
def yX6_right : MethodName := ⟨RX6, "right", "()I"⟩
abbrev cX6_opens : ByteArray := prog_8_method_20_code
def yX6_opens : MethodName := ⟨RX6, "opens", "()Z"⟩
abbrev cX6_countTurn : ByteArray := prog_8_method_21_code
def yX6_countTurn : MethodName := ⟨RX6, "countTurn", "(I)V"⟩
abbrev cX6_turnNow : ByteArray := prog_8_method_22_code
def yX6_turnNow : MethodName := ⟨RX6, "turnNow", "(II)I"⟩
abbrev cX6_turn : ByteArray := prog_8_method_23_code
def yX6_turn : MethodName := ⟨RX6, "turn", "(I)I"⟩
abbrev cX6_back : ByteArray := prog_8_method_24_code
def yX6_back : MethodName := ⟨RX6, "back", "(I)I"⟩
abbrev cX6_word : ByteArray := prog_8_method_25_code
def yX6_word : MethodName := ⟨RX6, "word", "()I"⟩
abbrev cX6_away : ByteArray := prog_8_method_26_code
def yX6_away : MethodName := ⟨RX6, "away", "()I"⟩
abbrev cX6_home : ByteArray := prog_8_method_27_code
def yX6_home : MethodName := ⟨RX6, "home", "()I"⟩
abbrev cX6_cut : ByteArray := prog_8_method_28_code
def yX6_cut : MethodName := ⟨RX6, "cut", "(III)I"⟩
abbrev cX6_stuckKeys : ByteArray := prog_8_method_29_code
def yX6_stuckKeys : MethodName := ⟨RX6, "stuckKeys", "()I"⟩
abbrev cX6_stick : ByteArray := prog_8_method_30_code
def yX6_stick : MethodName := ⟨RX6, "stick", "(I)I"⟩
abbrev cX6_notches : ByteArray := prog_8_method_31_code
def yX6_notches : MethodName := ⟨RX6, "notches", "()I"⟩
abbrev cX6_learn : ByteArray := prog_8_method_32_code
def yX6_learn : MethodName := ⟨RX6, "learn", "()I"⟩
abbrev cX6_append : ByteArray := prog_8_method_33_code
def yX6_append : MethodName := ⟨RX6, "append", "(I)I"⟩
abbrev cX6_clearBuffer : ByteArray := prog_8_method_34_code
def yX6_clearBuffer : MethodName := ⟨RX6, "clearBuffer", "()I"⟩
abbrev cX6_takeSign : ByteArray := prog_8_method_35_code
def yX6_takeSign : MethodName := ⟨RX6, "takeSign", "(I)Z"⟩
abbrev cX6_findError : ByteArray := prog_8_method_36_code
def yX6_findError : MethodName := ⟨RX6, "findError", "()I"⟩
abbrev cX6_firstError : ByteArray := prog_8_method_37_code
def yX6_firstError : MethodName := ⟨RX6, "firstError", "()I"⟩
abbrev cX6_isWhole : ByteArray := prog_8_method_38_code
def yX6_isWhole : MethodName := ⟨RX6, "isWhole", "()Z"⟩
abbrev cX6_addTurn : ByteArray := prog_8_method_39_code
def yX6_addTurn : MethodName := ⟨RX6, "addTurn", "(I)V"⟩
abbrev cX6_addAgain : ByteArray := prog_8_method_40_code
def yX6_addAgain : MethodName := ⟨RX6, "addAgain", "(IIZ)V"⟩
abbrev cX6_readWord : ByteArray := prog_8_method_41_code
def yX6_readWord : MethodName := ⟨RX6, "readWord", "()I"⟩
abbrev cX6_countTurns : ByteArray := prog_8_method_42_code
def yX6_countTurns : MethodName := ⟨RX6, "countTurns", "()I"⟩
abbrev cX6_keysAt : ByteArray := prog_8_method_43_code
def yX6_keysAt : MethodName := ⟨RX6, "keysAt", "(I)I"⟩
abbrev cX6_atNow : ByteArray := prog_8_method_44_code
def yX6_atNow : MethodName := ⟨RX6, "atNow", "(II)I"⟩
abbrev cX6_at : ByteArray := prog_8_method_45_code
def yX6_at : MethodName := ⟨RX6, "at", "(II)I"⟩
abbrev cX6_reach : ByteArray := prog_8_method_46_code
def yX6_reach : MethodName := ⟨RX6, "reach", "()I"⟩
abbrev cX6_common : ByteArray := prog_8_method_47_code
def yX6_common : MethodName := ⟨RX6, "common", "(II)I"⟩
abbrev cX6_period : ByteArray := prog_8_method_48_code
def yX6_period : MethodName := ⟨RX6, "period", "()I"⟩
abbrev cX6_keyPeriod : ByteArray := prog_8_method_49_code
def yX6_keyPeriod : MethodName := ⟨RX6, "keyPeriod", "(I)I"⟩
abbrev cX6_keyNow : ByteArray := prog_8_method_50_code
def yX6_keyNow : MethodName := ⟨RX6, "keyNow", "(II)I"⟩
abbrev cX6_key : ByteArray := prog_8_method_51_code
def yX6_key : MethodName := ⟨RX6, "key", "(II)I"⟩
abbrev cX6_pairNow : ByteArray := prog_8_method_52_code
def yX6_pairNow : MethodName := ⟨RX6, "pairNow", "(III)I"⟩
abbrev cX6_pair : ByteArray := prog_8_method_53_code
def yX6_pair : MethodName := ⟨RX6, "pair", "(III)I"⟩
abbrev cX6_wordNow : ByteArray := prog_8_method_54_code
def yX6_wordNow : MethodName := ⟨RX6, "wordNow", "(I)I"⟩
abbrev cX6_ofWord : ByteArray := prog_8_method_55_code
def yX6_ofWord : MethodName := ⟨RX6, "ofWord", "(I)I"⟩
abbrev cX6_stuckPlaces : ByteArray := prog_8_method_56_code
def yX6_stuckPlaces : MethodName := ⟨RX6, "stuckPlaces", "()I"⟩
abbrev cX6_countNow : ByteArray := prog_8_method_57_code
def yX6_countNow : MethodName := ⟨RX6, "countNow", "(I)I"⟩
abbrev cX6_count : ByteArray := prog_8_method_58_code
def yX6_count : MethodName := ⟨RX6, "count", "(I)I"⟩
abbrev cX6_opensBy : ByteArray := prog_8_method_59_code
def yX6_opensBy : MethodName := ⟨RX6, "opensBy", "(II)Z"⟩
abbrev cX6_power : ByteArray := prog_8_method_60_code
def yX6_power : MethodName := ⟨RX6, "power", "(I)I"⟩
abbrev cX6_findOpen : ByteArray := prog_8_method_61_code
def yX6_findOpen : MethodName := ⟨RX6, "findOpen", "(I)I"⟩
abbrev cX6_openIn : ByteArray := prog_8_method_62_code
def yX6_openIn : MethodName := ⟨RX6, "openIn", "(I)I"⟩
abbrev cX6_rightIf : ByteArray := prog_8_method_63_code
def yX6_rightIf : MethodName := ⟨RX6, "rightIf", "(II)I"⟩
abbrev cX6_ifTurned : ByteArray := prog_8_method_64_code
def yX6_ifTurned : MethodName := ⟨RX6, "ifTurned", "(II)I"⟩
abbrev cX6_findClosest : ByteArray := prog_8_method_65_code
def yX6_findClosest : MethodName := ⟨RX6, "findClosest", "()I"⟩
abbrev cX6_closest : ByteArray := prog_8_method_66_code
def yX6_closest : MethodName := ⟨RX6, "closest", "()I"⟩
abbrev cX6_openShare : ByteArray := prog_8_method_67_code
def yX6_openShare : MethodName := ⟨RX6, "openShare", "()D"⟩
abbrev cX6_meanNotch : ByteArray := prog_8_method_68_code
def yX6_meanNotch : MethodName := ⟨RX6, "meanNotch", "()F"⟩
abbrev cX6_digest : ByteArray := prog_8_method_69_code
def yX6_digest : MethodName := ⟨RX6, "digest", "()J"⟩
def RJxe99ae : String := "java/lang/Double"
def TJxe99ae : u_T := fun k => match k with
  | _ => ("", "", "", false)
def tyJxe99ae : Nat → FieldType := fun k => match k with
  | _ => .int
abbrev wsJxe99ae0 : List Cond := u_ws RJxe99ae TJxe99ae 0
theorem nmJxe99ae : ∀ a, a < 0 → ∀ b, b < 0 → a ≠ b → (TJxe99ae a).2.1 ≠ (TJxe99ae b).2.1 := by decide +kernel
theorem tyJxe99ae_ok : ∀ k, k < 0 → parseFieldDescriptor (TJxe99ae k).2.2.1 = some (tyJxe99ae k) := by decide +kernel
abbrev cJxe99ae_isNaN_b9ae7 : ByteArray := prog_9_method_6_code
def yJxe99ae_isNaN_b9ae7 : MethodName := ⟨RJxe99ae, "isNaN", "(D)Z"⟩
abbrev cJxe99ae_doubleToLongBits_ccdee : ByteArray := prog_9_method_23_code
def yJxe99ae_doubleToLongBits_ccdee : MethodName := ⟨RJxe99ae, "doubleToLongBits", "(D)J"⟩
def RJxf58ca : String := "java/lang/Float"
def TJxf58ca : u_T := fun k => match k with
  | _ => ("", "", "", false)
def tyJxf58ca : Nat → FieldType := fun k => match k with
  | _ => .int
abbrev wsJxf58ca0 : List Cond := u_ws RJxf58ca TJxf58ca 0
theorem nmJxf58ca : ∀ a, a < 0 → ∀ b, b < 0 → a ≠ b → (TJxf58ca a).2.1 ≠ (TJxf58ca b).2.1 := by decide +kernel
theorem tyJxf58ca_ok : ∀ k, k < 0 → parseFieldDescriptor (TJxf58ca k).2.2.1 = some (tyJxf58ca k) := by decide +kernel
abbrev cJxf58ca_isNaN_12338 : ByteArray := prog_11_method_6_code
def yJxf58ca_isNaN_12338 : MethodName := ⟨RJxf58ca, "isNaN", "(F)Z"⟩
abbrev cJxf58ca_floatToIntBits_5c35a : ByteArray := prog_11_method_24_code
def yJxf58ca_floatToIntBits_5c35a : MethodName := ⟨RJxf58ca, "floatToIntBits", "(F)I"⟩
def RJ6 : String := "java/lang/Integer"
def TJ6 : u_T := fun k => match k with
  | _ => ("", "", "", false)
def tyJ6 : Nat → FieldType := fun k => match k with
  | _ => .int
abbrev wsJ60 : List Cond := u_ws RJ6 TJ6 0
theorem nmJ6 : ∀ a, a < 0 → ∀ b, b < 0 → a ≠ b → (TJ6 a).2.1 ≠ (TJ6 b).2.1 := by decide +kernel
theorem tyJ6_ok : ∀ k, k < 0 → parseFieldDescriptor (TJ6 k).2.2.1 = some (tyJ6 k) := by decide +kernel
abbrev cJ6_bitCount_0f7a4 : ByteArray := prog_15_method_49_code
def yJ6_bitCount_0f7a4 : MethodName := ⟨RJ6, "bitCount", "(I)I"⟩
def RJ9 : String := "java/lang/Math"
def TJ9 : u_T := fun k => match k with
  | _ => ("", "", "", false)
def tyJ9 : Nat → FieldType := fun k => match k with
  | _ => .int
abbrev wsJ90 : List Cond := u_ws RJ9 TJ9 0
theorem nmJ9 : ∀ a, a < 0 → ∀ b, b < 0 → a ≠ b → (TJ9 a).2.1 ≠ (TJ9 b).2.1 := by decide +kernel
theorem tyJ9_ok : ∀ k, k < 0 → parseFieldDescriptor (TJ9 k).2.2.1 = some (tyJ9 k) := by decide +kernel
abbrev cJ9_floorMod_7cf53 : ByteArray := prog_16_method_50_code
def yJ9_floorMod_7cf53 : MethodName := ⟨RJ9, "floorMod", "(II)I"⟩
abbrev cJ9_min_7cf53 : ByteArray := prog_16_method_69_code
def yJ9_min_7cf53 : MethodName := ⟨RJ9, "min", "(II)I"⟩
def RJ0 : String := "java/lang/String"
def TJ0 : u_T := fun k => match k with
  | _ => ("", "", "", false)
def tyJ0 : Nat → FieldType := fun k => match k with
  | _ => .int
abbrev wsJ00 : List Cond := u_ws RJ0 TJ0 0
theorem nmJ0 : ∀ a, a < 0 → ∀ b, b < 0 → a ≠ b → (TJ0 a).2.1 ≠ (TJ0 b).2.1 := by decide +kernel
theorem tyJ0_ok : ∀ k, k < 0 → parseFieldDescriptor (TJ0 k).2.2.1 = some (tyJ0 k) := by decide +kernel
def RL : String := "PairedTumblersLaw"
abbrev cL_turn : ByteArray := method_3_code
def yL_turn : MethodName := ⟨RL, "turn", "(LPairedTumblers;I[J)I"⟩
abbrev cL_back : ByteArray := method_4_code
def yL_back : MethodName := ⟨RL, "back", "(LPairedTumblers;I[J)I"⟩
abbrev cL_word : ByteArray := method_5_code
def yL_word : MethodName := ⟨RL, "word", "(LPairedTumblers;[J)I"⟩
abbrev cL_cut : ByteArray := method_6_code
def yL_cut : MethodName := ⟨RL, "cut", "(LPairedTumblers;III[J)I"⟩
abbrev cL_stick : ByteArray := method_7_code
def yL_stick : MethodName := ⟨RL, "stick", "(LPairedTumblers;I[J)I"⟩
abbrev cL_append : ByteArray := method_8_code
def yL_append : MethodName := ⟨RL, "append", "(LPairedTumblers;I[J)I"⟩
abbrev cL_goBack : ByteArray := method_9_code
def yL_goBack : MethodName := ⟨RL, "goBack", "(LPairedTumblers;[J)I"⟩
abbrev cL_undo : ByteArray := method_10_code
def yL_undo : MethodName := ⟨RL, "undo", "(LPairedTumblers;[J)I"⟩
abbrev cL_at : ByteArray := method_11_code
def yL_at : MethodName := ⟨RL, "at", "(LPairedTumblers;II[J)I"⟩
abbrev cL_key : ByteArray := method_12_code
def yL_key : MethodName := ⟨RL, "key", "(LPairedTumblers;II[J)I"⟩
abbrev cL_pair : ByteArray := method_13_code
def yL_pair : MethodName := ⟨RL, "pair", "(LPairedTumblers;III[J)I"⟩
abbrev cL_ofWord : ByteArray := method_14_code
def yL_ofWord : MethodName := ⟨RL, "ofWord", "(LPairedTumblers;I[J)I"⟩
abbrev cL_count : ByteArray := method_15_code
def yL_count : MethodName := ⟨RL, "count", "(LPairedTumblers;I[J)I"⟩
abbrev cL_openIn : ByteArray := method_16_code
def yL_openIn : MethodName := ⟨RL, "openIn", "(LPairedTumblers;I[J)I"⟩
abbrev cL_ifTurned : ByteArray := method_17_code
def yL_ifTurned : MethodName := ⟨RL, "ifTurned", "(LPairedTumblers;II[J)I"⟩
abbrev cL_law : ByteArray := code
def yL_law : MethodName := ⟨RL, "law", "([I)Z"⟩
abbrev vwCl : List vw_C := [(RX0, TX0, 2), (RX1, TX1, 2), (RX2, TX2, 7), (RX3, TX3, 9), (RX4, TX4, 11), (RX5, TX5, 9), (RX6, TX6, 21)]
end
section
theorem qs0 : (Cond.selects RX5 yX5_save yX5_save) ∈ lw_all := lw_inS (List.mem_of_getElem? (i := 0) (by decide +kernel)) rfl
theorem qs1 : (Cond.selects RX5 yX5_dropOldest yX5_dropOldest) ∈ lw_all := lw_inS (List.mem_of_getElem? (i := 1) (by decide +kernel)) rfl
theorem qs2 : (Cond.selects RX5 yX5_writeSaved yX5_writeSaved) ∈ lw_all := lw_inS (List.mem_of_getElem? (i := 2) (by decide +kernel)) rfl
theorem qs3 : (Cond.selects RX4 yX4_takes yX4_takes) ∈ lw_all := lw_inS (List.mem_of_getElem? (i := 3) (by decide +kernel)) rfl
theorem qs4 : (Cond.selects RX4 yX4_takesFigure yX4_takesFigure) ∈ lw_all := lw_inS (List.mem_of_getElem? (i := 4) (by decide +kernel)) rfl
theorem qs5 : (Cond.selects RX4 yX4_repeat yX4_repeat) ∈ lw_all := lw_inS (List.mem_of_getElem? (i := 5) (by decide +kernel)) rfl
theorem qs6 : (Cond.selects RX4 yX4_addMove yX4_addMove) ∈ lw_all := lw_inS (List.mem_of_getElem? (i := 6) (by decide +kernel)) rfl
theorem qs7 : (Cond.selects RX4 yX4_takesMove yX4_takesMove) ∈ lw_all := lw_inS (List.mem_of_getElem? (i := 7) (by decide +kernel)) rfl
theorem qs8 : (Cond.selects RX4 yX4_takesOpening yX4_takesOpening) ∈ lw_all := lw_inS (List.mem_of_getElem? (i := 8) (by decide +kernel)) rfl
theorem qs9 : (Cond.selects RX4 yX4_takesInBracket yX4_takesInBracket) ∈ lw_all := lw_inS (List.mem_of_getElem? (i := 9) (by decide +kernel)) rfl
theorem qs10 : (Cond.selects RX4 yX4_addOpposite yX4_addOpposite) ∈ lw_all := lw_inS (List.mem_of_getElem? (i := 10) (by decide +kernel)) rfl
theorem qs11 : (Cond.selects RX5 yX5_showPair yX5_showPair) ∈ lw_all := lw_inS (List.mem_of_getElem? (i := 11) (by decide +kernel)) rfl
theorem qs13 : (Cond.selects RX5 yX5_mixPositions yX5_mixPositions) ∈ lw_all := lw_inS (List.mem_of_getElem? (i := 13) (by decide +kernel)) rfl
theorem qs14 : (Cond.selects RX5 yX5_mixKeys yX5_mixKeys) ∈ lw_all := lw_inS (List.mem_of_getElem? (i := 14) (by decide +kernel)) rfl
theorem qs15 : (Cond.selects RX5 yX5_showKey yX5_showKey) ∈ lw_all := lw_inS (List.mem_of_getElem? (i := 15) (by decide +kernel)) rfl
theorem qs16 : (Cond.selects RX5 yX5_periodByDoing yX5_periodByDoing) ∈ lw_all := lw_inS (List.mem_of_getElem? (i := 16) (by decide +kernel)) rfl
theorem qs17 : (Cond.selects RX0 yX0_placeOf yX0_placeOf) ∈ lw_all := lw_inS (List.mem_of_getElem? (i := 17) (by decide +kernel)) rfl
theorem qs18 : (Cond.selects RX5 yX5_mixPairs yX5_mixPairs) ∈ lw_all := lw_inS (List.mem_of_getElem? (i := 18) (by decide +kernel)) rfl
theorem qs19 : (Cond.selects RX2 yX2_listNear yX2_listNear) ∈ lw_all := lw_inS (List.mem_of_getElem? (i := 19) (by decide +kernel)) rfl
theorem qs20 : (Cond.selects RX2 yX2_list yX2_list) ∈ lw_all := lw_inS (List.mem_of_getElem? (i := 20) (by decide +kernel)) rfl
theorem qs21 : (Cond.selects RX2 yX2_listBehindOne yX2_listBehindOne) ∈ lw_all := lw_inS (List.mem_of_getElem? (i := 21) (by decide +kernel)) rfl
theorem qs22 : (Cond.selects RX2 yX2_tryFirst yX2_tryFirst) ∈ lw_all := lw_inS (List.mem_of_getElem? (i := 22) (by decide +kernel)) rfl
theorem qs23 : (Cond.selects RX2 yX2_listedTurns yX2_listedTurns) ∈ lw_all := lw_inS (List.mem_of_getElem? (i := 23) (by decide +kernel)) rfl
theorem qs24 : (Cond.selects RX2 yX2_meetsList yX2_meetsList) ∈ lw_all := lw_inS (List.mem_of_getElem? (i := 24) (by decide +kernel)) rfl
theorem qs25 : (Cond.selects RX5 yX5_mixBuffer yX5_mixBuffer) ∈ lw_all := lw_inS (List.mem_of_getElem? (i := 25) (by decide +kernel)) rfl
theorem qs26 : (Cond.selects RX5 yX5_turnOnce yX5_turnOnce) ∈ lw_all := lw_inS (List.mem_of_getElem? (i := 26) (by decide +kernel)) rfl
theorem qs27 : (Cond.selects RX5 yX5_ofShortWord yX5_ofShortWord) ∈ lw_all := lw_inS (List.mem_of_getElem? (i := 27) (by decide +kernel)) rfl
theorem qs28 : (Cond.selects RX5 yX5_showWord yX5_showWord) ∈ lw_all := lw_inS (List.mem_of_getElem? (i := 28) (by decide +kernel)) rfl
theorem qs29 : (Cond.selects RX6 yX6_record yX6_record) ∈ lw_all := lw_inS (List.mem_of_getElem? (i := 29) (by decide +kernel)) rfl
theorem qs30 : (Cond.selects RX6 yX6_turnNow yX6_turnNow) ∈ lw_all := lw_inS (List.mem_of_getElem? (i := 30) (by decide +kernel)) rfl
theorem qs31 : (Cond.selects RX6 yX6_isStuck yX6_isStuck) ∈ lw_all := lw_inS (List.mem_of_getElem? (i := 31) (by decide +kernel)) rfl
theorem qs32 : (Cond.selects RX6 yX6_has yX6_has) ∈ lw_all := lw_inS (List.mem_of_getElem? (i := 32) (by decide +kernel)) rfl
theorem qs33 : (Cond.selects RX6 yX6_countTurn yX6_countTurn) ∈ lw_all := lw_inS (List.mem_of_getElem? (i := 33) (by decide +kernel)) rfl
theorem qs34 : (Cond.selects RX6 yX6_opens yX6_opens) ∈ lw_all := lw_inS (List.mem_of_getElem? (i := 34) (by decide +kernel)) rfl
theorem qs35 : (Cond.selects RX6 yX6_right yX6_right) ∈ lw_all := lw_inS (List.mem_of_getElem? (i := 35) (by decide +kernel)) rfl
theorem qs36 : (Cond.selects RX6 yX6_isRight yX6_isRight) ∈ lw_all := lw_inS (List.mem_of_getElem? (i := 36) (by decide +kernel)) rfl
theorem qs37 : (Cond.selects RX6 yX6_doTurn yX6_doTurn) ∈ lw_all := lw_inS (List.mem_of_getElem? (i := 37) (by decide +kernel)) rfl
theorem qs38 : (Cond.selects RX6 yX6_next yX6_next) ∈ lw_all := lw_inS (List.mem_of_getElem? (i := 38) (by decide +kernel)) rfl
theorem qs39 : (Cond.selects RX6 yX6_isWhole yX6_isWhole) ∈ lw_all := lw_inS (List.mem_of_getElem? (i := 39) (by decide +kernel)) rfl
theorem qs40 : (Cond.selects RX6 yX6_findError yX6_findError) ∈ lw_all := lw_inS (List.mem_of_getElem? (i := 40) (by decide +kernel)) rfl
theorem qs41 : (Cond.selects RX6 yX6_takeSign yX6_takeSign) ∈ lw_all := lw_inS (List.mem_of_getElem? (i := 41) (by decide +kernel)) rfl
theorem qs42 : (Cond.selects RX6 yX6_readWord yX6_readWord) ∈ lw_all := lw_inS (List.mem_of_getElem? (i := 42) (by decide +kernel)) rfl
theorem qs43 : (Cond.selects RX6 yX6_addAgain yX6_addAgain) ∈ lw_all := lw_inS (List.mem_of_getElem? (i := 43) (by decide +kernel)) rfl
theorem qs44 : (Cond.selects RX6 yX6_addTurn yX6_addTurn) ∈ lw_all := lw_inS (List.mem_of_getElem? (i := 44) (by decide +kernel)) rfl
theorem qs45 : (Cond.selects RX6 yX6_away yX6_away) ∈ lw_all := lw_inS (List.mem_of_getElem? (i := 45) (by decide +kernel)) rfl
theorem qs46 : (Cond.selects RX6 yX6_toFirst yX6_toFirst) ∈ lw_all := lw_inS (List.mem_of_getElem? (i := 46) (by decide +kernel)) rfl
theorem qs47 : (Cond.selects RX6 yX6_stuckKeys yX6_stuckKeys) ∈ lw_all := lw_inS (List.mem_of_getElem? (i := 47) (by decide +kernel)) rfl
theorem qs48 : (Cond.selects RX6 yX6_notches yX6_notches) ∈ lw_all := lw_inS (List.mem_of_getElem? (i := 48) (by decide +kernel)) rfl
theorem qs49 : (Cond.selects RX6 yX6_atNow yX6_atNow) ∈ lw_all := lw_inS (List.mem_of_getElem? (i := 49) (by decide +kernel)) rfl
theorem qs50 : (Cond.selects RX6 yX6_keysAt yX6_keysAt) ∈ lw_all := lw_inS (List.mem_of_getElem? (i := 50) (by decide +kernel)) rfl
theorem qs51 : (Cond.selects RX6 yX6_keyNow yX6_keyNow) ∈ lw_all := lw_inS (List.mem_of_getElem? (i := 51) (by decide +kernel)) rfl
theorem qs52 : (Cond.selects RX6 yX6_keyPeriod yX6_keyPeriod) ∈ lw_all := lw_inS (List.mem_of_getElem? (i := 52) (by decide +kernel)) rfl
theorem qs53 : (Cond.selects RX6 yX6_putAside yX6_putAside) ∈ lw_all := lw_inS (List.mem_of_getElem? (i := 53) (by decide +kernel)) rfl
theorem qs54 : (Cond.selects RX6 yX6_period yX6_period) ∈ lw_all := lw_inS (List.mem_of_getElem? (i := 54) (by decide +kernel)) rfl
theorem qs55 : (Cond.selects RX6 yX6_putBack yX6_putBack) ∈ lw_all := lw_inS (List.mem_of_getElem? (i := 55) (by decide +kernel)) rfl
theorem qs56 : (Cond.selects RX6 yX6_pairNow yX6_pairNow) ∈ lw_all := lw_inS (List.mem_of_getElem? (i := 56) (by decide +kernel)) rfl
theorem qs57 : (Cond.selects RX6 yX6_reach yX6_reach) ∈ lw_all := lw_inS (List.mem_of_getElem? (i := 57) (by decide +kernel)) rfl
theorem qs58 : (Cond.selects RX6 yX6_wordNow yX6_wordNow) ∈ lw_all := lw_inS (List.mem_of_getElem? (i := 58) (by decide +kernel)) rfl
theorem qs59 : (Cond.selects RX6 yX6_countTurns yX6_countTurns) ∈ lw_all := lw_inS (List.mem_of_getElem? (i := 59) (by decide +kernel)) rfl
theorem qs60 : (Cond.selects RX6 yX6_countNow yX6_countNow) ∈ lw_all := lw_inS (List.mem_of_getElem? (i := 60) (by decide +kernel)) rfl
theorem qs61 : (Cond.selects RX6 yX6_stuckPlaces yX6_stuckPlaces) ∈ lw_all := lw_inS (List.mem_of_getElem? (i := 61) (by decide +kernel)) rfl
theorem qs62 : (Cond.selects RX6 yX6_findOpen yX6_findOpen) ∈ lw_all := lw_inS (List.mem_of_getElem? (i := 62) (by decide +kernel)) rfl
theorem qs63 : (Cond.selects RX6 yX6_opensBy yX6_opensBy) ∈ lw_all := lw_inS (List.mem_of_getElem? (i := 63) (by decide +kernel)) rfl
theorem qs64 : (Cond.selects RX6 yX6_rightIf yX6_rightIf) ∈ lw_all := lw_inS (List.mem_of_getElem? (i := 64) (by decide +kernel)) rfl
theorem qs65 : (Cond.selects RX6 yX6_findClosest yX6_findClosest) ∈ lw_all := lw_inS (List.mem_of_getElem? (i := 65) (by decide +kernel)) rfl
theorem q1_0 : (Cond.initialized RL) ∈ lw_all := lw_in1 (List.mem_of_getElem? (i := 0) (by decide +kernel)) rfl
theorem q1_1 : (Cond.initialized RX5) ∈ lw_all := lw_in1 (List.mem_of_getElem? (i := 1) (by decide +kernel)) rfl
theorem q1_2 : (Cond.initialized RX3) ∈ lw_all := lw_in1 (List.mem_of_getElem? (i := 2) (by decide +kernel)) rfl
theorem q1_3 : (Cond.initialized RX0) ∈ lw_all := lw_in1 (List.mem_of_getElem? (i := 3) (by decide +kernel)) rfl
theorem q1_4 : (Cond.initialized RX1) ∈ lw_all := lw_in1 (List.mem_of_getElem? (i := 4) (by decide +kernel)) rfl
theorem q1_5 : (Cond.initialized RX4) ∈ lw_all := lw_in1 (List.mem_of_getElem? (i := 5) (by decide +kernel)) rfl
theorem q1_6 : (Cond.initialized RX2) ∈ lw_all := lw_in1 (List.mem_of_getElem? (i := 6) (by decide +kernel)) rfl
theorem q1_7 : (Cond.initialized RX6) ∈ lw_all := lw_in1 (List.mem_of_getElem? (i := 7) (by decide +kernel)) rfl
theorem q1_8 : (Cond.initialized "java/lang/Throwable") ∈ lw_all := lw_in1 (List.mem_of_getElem? (i := 8) (by decide +kernel)) rfl
theorem q1_9 : (Cond.initialized "java/lang/Exception") ∈ lw_all := lw_in1 (List.mem_of_getElem? (i := 9) (by decide +kernel)) rfl
theorem q1_10 : (Cond.initialized "java/lang/RuntimeException") ∈ lw_all := lw_in1 (List.mem_of_getElem? (i := 10) (by decide +kernel)) rfl
theorem q1_11 : (Cond.initialized "java/lang/IndexOutOfBoundsException") ∈ lw_all := lw_in1 (List.mem_of_getElem? (i := 11) (by decide +kernel)) rfl
theorem q1_12 : (Cond.initialized "java/lang/IllegalStateException") ∈ lw_all := lw_in1 (List.mem_of_getElem? (i := 12) (by decide +kernel)) rfl
theorem q1_13 : (Cond.initialized RJ6) ∈ lw_all := lw_in1 (List.mem_of_getElem? (i := 13) (by decide +kernel)) rfl
theorem q1_14 : (Cond.initialized RJ9) ∈ lw_all := lw_in1 (List.mem_of_getElem? (i := 14) (by decide +kernel)) rfl
theorem q1_15 : (Cond.initialized "java/lang/IllegalArgumentException") ∈ lw_all := lw_in1 (List.mem_of_getElem? (i := 15) (by decide +kernel)) rfl
theorem q1_16 : (Cond.initialized RJxe99ae) ∈ lw_all := lw_in1 (List.mem_of_getElem? (i := 16) (by decide +kernel)) rfl
theorem q1_17 : (Cond.initialized RJxf58ca) ∈ lw_all := lw_in1 (List.mem_of_getElem? (i := 17) (by decide +kernel)) rfl
theorem q1_18 : (Cond.classLink RL 8 RX5) ∈ lw_all := lw_in1 (List.mem_of_getElem? (i := 18) (by decide +kernel)) rfl
theorem q1_19 : (Cond.instantiable RX5 9) ∈ lw_all := lw_in1 (List.mem_of_getElem? (i := 19) (by decide +kernel)) rfl
theorem q1_20 : (Cond.methodLink RL 64 yX5_init) ∈ lw_all := lw_in1 (List.mem_of_getElem? (i := 20) (by decide +kernel)) rfl
theorem q1_21 : (Cond.instanceMethod yX5_init) ∈ lw_all := lw_in1 (List.mem_of_getElem? (i := 21) (by decide +kernel)) rfl
theorem q1_22 : (Cond.code yX5_init cX5_init 2 none) ∈ lw_all := lw_in1 (List.mem_of_getElem? (i := 22) (by decide +kernel)) rfl
theorem q1_23 : (Cond.methodLink RX5 3 ⟨"java/lang/Object", "<init>", "()V"⟩) ∈ lw_all := lw_in1 (List.mem_of_getElem? (i := 23) (by decide +kernel)) rfl
theorem q1_24 : (Cond.instanceMethod ⟨"java/lang/Object", "<init>", "()V"⟩) ∈ lw_all := lw_in1 (List.mem_of_getElem? (i := 24) (by decide +kernel)) rfl
theorem q1_25 : ((Jvm.Cond.code ({ cls := "java/lang/Object", name := "<init>", desc := "()V" } : Jvm.MethodName) object_method_1_code (1 : Nat) (Option.none : Option Jvm.ClassFile.FieldType))) ∈ lw_all := lw_in1 (List.mem_of_getElem? (i := 25) (by decide +kernel)) rfl
theorem q1_26 : (Cond.classLink RX5 9 RX3) ∈ lw_all := lw_in1 (List.mem_of_getElem? (i := 26) (by decide +kernel)) rfl
theorem q1_27 : (Cond.instantiable RX3 9) ∈ lw_all := lw_in1 (List.mem_of_getElem? (i := 27) (by decide +kernel)) rfl
theorem qn1_28 : (Cond.methodLinkNest RX5 11 yX3_init RX5) ∈ lw_nw := lw_nin1 (List.mem_of_getElem? (i := 28) (by decide +kernel)) rfl
theorem q1_29 : (Cond.instanceMethod yX3_init) ∈ lw_all := lw_in1 (List.mem_of_getElem? (i := 29) (by decide +kernel)) rfl
theorem q1_30 : (Cond.code yX3_init cX3_init 1 none) ∈ lw_all := lw_in1 (List.mem_of_getElem? (i := 30) (by decide +kernel)) rfl
theorem q1_31 : (Cond.methodLink RX3 3 ⟨"java/lang/Object", "<init>", "()V"⟩) ∈ lw_all := lw_in1 (List.mem_of_getElem? (i := 31) (by decide +kernel)) rfl
theorem q1_32 : (Cond.classLink RX3 9 RX0) ∈ lw_all := lw_in1 (List.mem_of_getElem? (i := 32) (by decide +kernel)) rfl
theorem q1_33 : (Cond.instantiable RX0 2) ∈ lw_all := lw_in1 (List.mem_of_getElem? (i := 33) (by decide +kernel)) rfl
theorem q1_34 : (Cond.methodLink RX3 11 yX0_init) ∈ lw_all := lw_in1 (List.mem_of_getElem? (i := 34) (by decide +kernel)) rfl
theorem q1_35 : (Cond.instanceMethod yX0_init) ∈ lw_all := lw_in1 (List.mem_of_getElem? (i := 35) (by decide +kernel)) rfl
theorem q1_36 : (Cond.code yX0_init cX0_init 2 none) ∈ lw_all := lw_in1 (List.mem_of_getElem? (i := 36) (by decide +kernel)) rfl
theorem q1_37 : (Cond.methodLink RX0 3 ⟨"java/lang/Object", "<init>", "()V"⟩) ∈ lw_all := lw_in1 (List.mem_of_getElem? (i := 37) (by decide +kernel)) rfl
theorem q1_38 : (Cond.fieldLink RX0 9 "PairedTumblers$Discs" "disc" "[I") ∈ lw_all := lw_in1 (List.mem_of_getElem? (i := 38) (by decide +kernel)) rfl
theorem q1_39 : (Cond.fieldLink RX0 15 "PairedTumblers$Discs" "notch" "[I") ∈ lw_all := lw_in1 (List.mem_of_getElem? (i := 39) (by decide +kernel)) rfl
theorem q1_40 : ((Jvm.Cond.laysFinal "PairedTumblers$Discs" "PairedTumblers$Discs" "disc" "[I")) ∈ lw_all := lw_in1 (List.mem_of_getElem? (i := 40) (by decide +kernel)) rfl
theorem q1_41 : ((Jvm.Cond.soleField "PairedTumblers$Discs" "disc")) ∈ lw_all := lw_in1 (List.mem_of_getElem? (i := 41) (by decide +kernel)) rfl
theorem q1_42 : ((Jvm.Cond.laysFinal "PairedTumblers$Discs" "PairedTumblers$Discs" "notch" "[I")) ∈ lw_all := lw_in1 (List.mem_of_getElem? (i := 42) (by decide +kernel)) rfl
theorem q1_43 : ((Jvm.Cond.soleField "PairedTumblers$Discs" "notch")) ∈ lw_all := lw_in1 (List.mem_of_getElem? (i := 43) (by decide +kernel)) rfl
theorem q1_44 : ((Jvm.Cond.superclass "PairedTumblers$Discs" "java/lang/Object")) ∈ lw_all := lw_in1 (List.mem_of_getElem? (i := 44) (by decide +kernel)) rfl
theorem q1_45 : ((Jvm.Cond.arrayClass Jvm.ClassFile.FieldType.int)) ∈ lw_all := lw_in1 (List.mem_of_getElem? (i := 45) (by decide +kernel)) rfl
theorem q1_46 : (Cond.classLink RX3 18 RX1) ∈ lw_all := lw_in1 (List.mem_of_getElem? (i := 46) (by decide +kernel)) rfl
theorem q1_47 : (Cond.instantiable RX1 2) ∈ lw_all := lw_in1 (List.mem_of_getElem? (i := 47) (by decide +kernel)) rfl
theorem q1_48 : (Cond.methodLink RX3 20 yX1_init) ∈ lw_all := lw_in1 (List.mem_of_getElem? (i := 48) (by decide +kernel)) rfl
theorem q1_49 : (Cond.instanceMethod yX1_init) ∈ lw_all := lw_in1 (List.mem_of_getElem? (i := 49) (by decide +kernel)) rfl
theorem q1_50 : (Cond.code yX1_init cX1_init 2 none) ∈ lw_all := lw_in1 (List.mem_of_getElem? (i := 50) (by decide +kernel)) rfl
theorem q1_51 : (Cond.methodLink RX1 3 ⟨"java/lang/Object", "<init>", "()V"⟩) ∈ lw_all := lw_in1 (List.mem_of_getElem? (i := 51) (by decide +kernel)) rfl
theorem q1_52 : (Cond.fieldLink RX1 9 "PairedTumblers$Keys" "mask" "[I") ∈ lw_all := lw_in1 (List.mem_of_getElem? (i := 52) (by decide +kernel)) rfl
theorem q1_53 : (Cond.fieldLink RX1 15 "PairedTumblers$Keys" "strength" "[I") ∈ lw_all := lw_in1 (List.mem_of_getElem? (i := 53) (by decide +kernel)) rfl
theorem q1_54 : ((Jvm.Cond.laysFinal "PairedTumblers$Keys" "PairedTumblers$Keys" "mask" "[I")) ∈ lw_all := lw_in1 (List.mem_of_getElem? (i := 54) (by decide +kernel)) rfl
theorem q1_55 : ((Jvm.Cond.soleField "PairedTumblers$Keys" "mask")) ∈ lw_all := lw_in1 (List.mem_of_getElem? (i := 55) (by decide +kernel)) rfl
theorem q1_56 : ((Jvm.Cond.laysFinal "PairedTumblers$Keys" "PairedTumblers$Keys" "strength" "[I")) ∈ lw_all := lw_in1 (List.mem_of_getElem? (i := 56) (by decide +kernel)) rfl
theorem q1_57 : ((Jvm.Cond.soleField "PairedTumblers$Keys" "strength")) ∈ lw_all := lw_in1 (List.mem_of_getElem? (i := 57) (by decide +kernel)) rfl
theorem q1_58 : ((Jvm.Cond.superclass "PairedTumblers$Keys" "java/lang/Object")) ∈ lw_all := lw_in1 (List.mem_of_getElem? (i := 58) (by decide +kernel)) rfl
theorem q1_59 : (Cond.fieldLink RX3 12 "PairedTumblers$State" "discs" "LPairedTumblers$Discs;") ∈ lw_all := lw_in1 (List.mem_of_getElem? (i := 59) (by decide +kernel)) rfl
theorem qn1_60 : (Cond.fieldLinkNest RX2 60 "PairedTumblers$State" "discs" "LPairedTumblers$Discs;" RX5) ∈ lw_nw := lw_nin1 (List.mem_of_getElem? (i := 60) (by decide +kernel)) rfl
theorem qn1_61 : (Cond.fieldLinkNest RX5 99 "PairedTumblers$State" "discs" "LPairedTumblers$Discs;" RX5) ∈ lw_nw := lw_nin1 (List.mem_of_getElem? (i := 61) (by decide +kernel)) rfl
theorem q1_62 : (Cond.fieldLink RX3 21 "PairedTumblers$State" "keys" "LPairedTumblers$Keys;") ∈ lw_all := lw_in1 (List.mem_of_getElem? (i := 62) (by decide +kernel)) rfl
theorem qn1_63 : (Cond.fieldLinkNest RX2 67 "PairedTumblers$State" "keys" "LPairedTumblers$Keys;" RX5) ∈ lw_nw := lw_nin1 (List.mem_of_getElem? (i := 63) (by decide +kernel)) rfl
theorem qn1_64 : (Cond.fieldLinkNest RX5 124 "PairedTumblers$State" "keys" "LPairedTumblers$Keys;" RX5) ∈ lw_nw := lw_nin1 (List.mem_of_getElem? (i := 64) (by decide +kernel)) rfl
theorem q1_65 : (Cond.fieldLink RX3 25 "PairedTumblers$State" "secret" "LPairedTumblers$Discs;") ∈ lw_all := lw_in1 (List.mem_of_getElem? (i := 65) (by decide +kernel)) rfl
theorem qn1_66 : (Cond.fieldLinkNest RX2 85 "PairedTumblers$State" "secret" "LPairedTumblers$Discs;" RX5) ∈ lw_nw := lw_nin1 (List.mem_of_getElem? (i := 66) (by decide +kernel)) rfl
theorem qn1_67 : (Cond.fieldLinkNest RX5 146 "PairedTumblers$State" "secret" "LPairedTumblers$Discs;" RX5) ∈ lw_nw := lw_nin1 (List.mem_of_getElem? (i := 67) (by decide +kernel)) rfl
theorem q1_68 : (Cond.fieldLink RX3 28 "PairedTumblers$State" "hasSecret" "Z") ∈ lw_all := lw_in1 (List.mem_of_getElem? (i := 68) (by decide +kernel)) rfl
theorem qn1_69 : (Cond.fieldLinkNest RX2 38 "PairedTumblers$State" "hasSecret" "Z" RX5) ∈ lw_nw := lw_nin1 (List.mem_of_getElem? (i := 69) (by decide +kernel)) rfl
theorem qn1_70 : (Cond.fieldLinkNest RX5 153 "PairedTumblers$State" "hasSecret" "Z" RX5) ∈ lw_nw := lw_nin1 (List.mem_of_getElem? (i := 70) (by decide +kernel)) rfl
theorem q1_71 : (Cond.fieldLink RX3 32 "PairedTumblers$State" "stuck" "I") ∈ lw_all := lw_in1 (List.mem_of_getElem? (i := 71) (by decide +kernel)) rfl
theorem qn1_72 : (Cond.fieldLinkNest RX5 140 "PairedTumblers$State" "stuck" "I" RX5) ∈ lw_nw := lw_nin1 (List.mem_of_getElem? (i := 72) (by decide +kernel)) rfl
theorem q1_73 : (Cond.fieldLink RX3 36 "PairedTumblers$State" "uses" "[I") ∈ lw_all := lw_in1 (List.mem_of_getElem? (i := 73) (by decide +kernel)) rfl
theorem q1_74 : (Cond.fieldLink RX3 40 "PairedTumblers$State" "turns" "I") ∈ lw_all := lw_in1 (List.mem_of_getElem? (i := 74) (by decide +kernel)) rfl
theorem qn1_75 : (Cond.fieldLinkNest RX5 170 "PairedTumblers$State" "turns" "I" RX5) ∈ lw_nw := lw_nin1 (List.mem_of_getElem? (i := 75) (by decide +kernel)) rfl
theorem q1_76 : (Cond.fieldLink RX3 43 "PairedTumblers$State" "account" "I") ∈ lw_all := lw_in1 (List.mem_of_getElem? (i := 76) (by decide +kernel)) rfl
theorem qn1_77 : (Cond.fieldLinkNest RX5 113 "PairedTumblers$State" "account" "I" RX5) ∈ lw_nw := lw_nin1 (List.mem_of_getElem? (i := 77) (by decide +kernel)) rfl
theorem q1_78 : (Cond.fieldLink RX3 46 "PairedTumblers$State" "openings" "I") ∈ lw_all := lw_in1 (List.mem_of_getElem? (i := 78) (by decide +kernel)) rfl
theorem qn1_79 : (Cond.fieldLinkNest RX5 230 "PairedTumblers$State" "openings" "I" RX5) ∈ lw_nw := lw_nin1 (List.mem_of_getElem? (i := 79) (by decide +kernel)) rfl
theorem q1_80 : ((Jvm.Cond.laysFinal "PairedTumblers$State" "PairedTumblers$State" "discs" "LPairedTumblers$Discs;")) ∈ lw_all := lw_in1 (List.mem_of_getElem? (i := 80) (by decide +kernel)) rfl
theorem q1_81 : ((Jvm.Cond.soleField "PairedTumblers$State" "discs")) ∈ lw_all := lw_in1 (List.mem_of_getElem? (i := 81) (by decide +kernel)) rfl
theorem q1_82 : ((Jvm.Cond.laysFinal "PairedTumblers$State" "PairedTumblers$State" "keys" "LPairedTumblers$Keys;")) ∈ lw_all := lw_in1 (List.mem_of_getElem? (i := 82) (by decide +kernel)) rfl
theorem q1_83 : ((Jvm.Cond.soleField "PairedTumblers$State" "keys")) ∈ lw_all := lw_in1 (List.mem_of_getElem? (i := 83) (by decide +kernel)) rfl
theorem q1_84 : ((Jvm.Cond.laysFinal "PairedTumblers$State" "PairedTumblers$State" "secret" "LPairedTumblers$Discs;")) ∈ lw_all := lw_in1 (List.mem_of_getElem? (i := 84) (by decide +kernel)) rfl
theorem q1_85 : ((Jvm.Cond.soleField "PairedTumblers$State" "secret")) ∈ lw_all := lw_in1 (List.mem_of_getElem? (i := 85) (by decide +kernel)) rfl
theorem q1_86 : ((Jvm.Cond.lays "PairedTumblers$State" "PairedTumblers$State" "hasSecret" "Z")) ∈ lw_all := lw_in1 (List.mem_of_getElem? (i := 86) (by decide +kernel)) rfl
theorem q1_87 : ((Jvm.Cond.soleField "PairedTumblers$State" "hasSecret")) ∈ lw_all := lw_in1 (List.mem_of_getElem? (i := 87) (by decide +kernel)) rfl
theorem q1_88 : ((Jvm.Cond.lays "PairedTumblers$State" "PairedTumblers$State" "stuck" "I")) ∈ lw_all := lw_in1 (List.mem_of_getElem? (i := 88) (by decide +kernel)) rfl
theorem q1_89 : ((Jvm.Cond.soleField "PairedTumblers$State" "stuck")) ∈ lw_all := lw_in1 (List.mem_of_getElem? (i := 89) (by decide +kernel)) rfl
theorem q1_90 : ((Jvm.Cond.laysFinal "PairedTumblers$State" "PairedTumblers$State" "uses" "[I")) ∈ lw_all := lw_in1 (List.mem_of_getElem? (i := 90) (by decide +kernel)) rfl
theorem q1_91 : ((Jvm.Cond.soleField "PairedTumblers$State" "uses")) ∈ lw_all := lw_in1 (List.mem_of_getElem? (i := 91) (by decide +kernel)) rfl
theorem q1_92 : ((Jvm.Cond.lays "PairedTumblers$State" "PairedTumblers$State" "turns" "I")) ∈ lw_all := lw_in1 (List.mem_of_getElem? (i := 92) (by decide +kernel)) rfl
theorem q1_93 : ((Jvm.Cond.soleField "PairedTumblers$State" "turns")) ∈ lw_all := lw_in1 (List.mem_of_getElem? (i := 93) (by decide +kernel)) rfl
theorem q1_94 : ((Jvm.Cond.lays "PairedTumblers$State" "PairedTumblers$State" "account" "I")) ∈ lw_all := lw_in1 (List.mem_of_getElem? (i := 94) (by decide +kernel)) rfl
theorem q1_95 : ((Jvm.Cond.soleField "PairedTumblers$State" "account")) ∈ lw_all := lw_in1 (List.mem_of_getElem? (i := 95) (by decide +kernel)) rfl
theorem q1_96 : ((Jvm.Cond.lays "PairedTumblers$State" "PairedTumblers$State" "openings" "I")) ∈ lw_all := lw_in1 (List.mem_of_getElem? (i := 96) (by decide +kernel)) rfl
theorem q1_97 : ((Jvm.Cond.soleField "PairedTumblers$State" "openings")) ∈ lw_all := lw_in1 (List.mem_of_getElem? (i := 97) (by decide +kernel)) rfl
theorem q1_98 : ((Jvm.Cond.superclass "PairedTumblers$State" "java/lang/Object")) ∈ lw_all := lw_in1 (List.mem_of_getElem? (i := 98) (by decide +kernel)) rfl
theorem q1_100 : (Cond.classLink RX5 31 RX4) ∈ lw_all := lw_in1 (List.mem_of_getElem? (i := 100) (by decide +kernel)) rfl
theorem q1_101 : (Cond.instantiable RX4 11) ∈ lw_all := lw_in1 (List.mem_of_getElem? (i := 101) (by decide +kernel)) rfl
theorem qn1_102 : (Cond.methodLinkNest RX5 33 yX4_init RX5) ∈ lw_nw := lw_nin1 (List.mem_of_getElem? (i := 102) (by decide +kernel)) rfl
theorem q1_103 : (Cond.instanceMethod yX4_init) ∈ lw_all := lw_in1 (List.mem_of_getElem? (i := 103) (by decide +kernel)) rfl
theorem q1_104 : (Cond.code yX4_init cX4_init 1 none) ∈ lw_all := lw_in1 (List.mem_of_getElem? (i := 104) (by decide +kernel)) rfl
theorem q1_105 : (Cond.methodLink RX4 3 ⟨"java/lang/Object", "<init>", "()V"⟩) ∈ lw_all := lw_in1 (List.mem_of_getElem? (i := 105) (by decide +kernel)) rfl
theorem q1_106 : (Cond.fieldLink RX4 9 "PairedTumblers$WordText" "sign" "[C") ∈ lw_all := lw_in1 (List.mem_of_getElem? (i := 106) (by decide +kernel)) rfl
theorem q1_107 : (Cond.fieldLink RX4 15 "PairedTumblers$WordText" "length" "I") ∈ lw_all := lw_in1 (List.mem_of_getElem? (i := 107) (by decide +kernel)) rfl
theorem qn1_108 : (Cond.fieldLinkNest RX5 96 "PairedTumblers$WordText" "length" "I" RX5) ∈ lw_nw := lw_nin1 (List.mem_of_getElem? (i := 108) (by decide +kernel)) rfl
theorem q1_109 : (Cond.fieldLink RX4 19 "PairedTumblers$WordText" "moves" "[I") ∈ lw_all := lw_in1 (List.mem_of_getElem? (i := 109) (by decide +kernel)) rfl
theorem q1_110 : (Cond.fieldLink RX4 23 "PairedTumblers$WordText" "total" "I") ∈ lw_all := lw_in1 (List.mem_of_getElem? (i := 110) (by decide +kernel)) rfl
theorem qn1_111 : (Cond.fieldLinkNest RX5 73 "PairedTumblers$WordText" "total" "I" RX5) ∈ lw_nw := lw_nin1 (List.mem_of_getElem? (i := 111) (by decide +kernel)) rfl
theorem q1_112 : (Cond.fieldLink RX4 26 "PairedTumblers$WordText" "complete" "Z") ∈ lw_all := lw_in1 (List.mem_of_getElem? (i := 112) (by decide +kernel)) rfl
theorem qn1_113 : (Cond.fieldLinkNest RX5 63 "PairedTumblers$WordText" "complete" "Z" RX5) ∈ lw_nw := lw_nin1 (List.mem_of_getElem? (i := 113) (by decide +kernel)) rfl
theorem q1_114 : (Cond.fieldLink RX4 30 "PairedTumblers$WordText" "kind" "[I") ∈ lw_all := lw_in1 (List.mem_of_getElem? (i := 114) (by decide +kernel)) rfl
theorem q1_115 : (Cond.fieldLink RX4 33 "PairedTumblers$WordText" "begin" "[I") ∈ lw_all := lw_in1 (List.mem_of_getElem? (i := 115) (by decide +kernel)) rfl
theorem q1_116 : (Cond.fieldLink RX4 36 "PairedTumblers$WordText" "middle" "[I") ∈ lw_all := lw_in1 (List.mem_of_getElem? (i := 116) (by decide +kernel)) rfl
theorem q1_117 : (Cond.fieldLink RX4 39 "PairedTumblers$WordText" "open" "I") ∈ lw_all := lw_in1 (List.mem_of_getElem? (i := 117) (by decide +kernel)) rfl
theorem q1_118 : (Cond.fieldLink RX4 42 "PairedTumblers$WordText" "hasItem" "Z") ∈ lw_all := lw_in1 (List.mem_of_getElem? (i := 118) (by decide +kernel)) rfl
theorem q1_119 : (Cond.fieldLink RX4 45 "PairedTumblers$WordText" "wantsFigure" "Z") ∈ lw_all := lw_in1 (List.mem_of_getElem? (i := 119) (by decide +kernel)) rfl
theorem q1_120 : ((Jvm.Cond.laysFinal "PairedTumblers$WordText" "PairedTumblers$WordText" "sign" "[C")) ∈ lw_all := lw_in1 (List.mem_of_getElem? (i := 120) (by decide +kernel)) rfl
theorem q1_121 : ((Jvm.Cond.soleField "PairedTumblers$WordText" "sign")) ∈ lw_all := lw_in1 (List.mem_of_getElem? (i := 121) (by decide +kernel)) rfl
theorem q1_122 : ((Jvm.Cond.lays "PairedTumblers$WordText" "PairedTumblers$WordText" "length" "I")) ∈ lw_all := lw_in1 (List.mem_of_getElem? (i := 122) (by decide +kernel)) rfl
theorem q1_123 : ((Jvm.Cond.soleField "PairedTumblers$WordText" "length")) ∈ lw_all := lw_in1 (List.mem_of_getElem? (i := 123) (by decide +kernel)) rfl
theorem q1_124 : ((Jvm.Cond.laysFinal "PairedTumblers$WordText" "PairedTumblers$WordText" "moves" "[I")) ∈ lw_all := lw_in1 (List.mem_of_getElem? (i := 124) (by decide +kernel)) rfl
theorem q1_125 : ((Jvm.Cond.soleField "PairedTumblers$WordText" "moves")) ∈ lw_all := lw_in1 (List.mem_of_getElem? (i := 125) (by decide +kernel)) rfl
theorem q1_126 : ((Jvm.Cond.lays "PairedTumblers$WordText" "PairedTumblers$WordText" "total" "I")) ∈ lw_all := lw_in1 (List.mem_of_getElem? (i := 126) (by decide +kernel)) rfl
theorem q1_127 : ((Jvm.Cond.soleField "PairedTumblers$WordText" "total")) ∈ lw_all := lw_in1 (List.mem_of_getElem? (i := 127) (by decide +kernel)) rfl
theorem q1_128 : ((Jvm.Cond.lays "PairedTumblers$WordText" "PairedTumblers$WordText" "complete" "Z")) ∈ lw_all := lw_in1 (List.mem_of_getElem? (i := 128) (by decide +kernel)) rfl
theorem q1_129 : ((Jvm.Cond.soleField "PairedTumblers$WordText" "complete")) ∈ lw_all := lw_in1 (List.mem_of_getElem? (i := 129) (by decide +kernel)) rfl
theorem q1_130 : ((Jvm.Cond.laysFinal "PairedTumblers$WordText" "PairedTumblers$WordText" "kind" "[I")) ∈ lw_all := lw_in1 (List.mem_of_getElem? (i := 130) (by decide +kernel)) rfl
theorem q1_131 : ((Jvm.Cond.soleField "PairedTumblers$WordText" "kind")) ∈ lw_all := lw_in1 (List.mem_of_getElem? (i := 131) (by decide +kernel)) rfl
theorem q1_132 : ((Jvm.Cond.laysFinal "PairedTumblers$WordText" "PairedTumblers$WordText" "begin" "[I")) ∈ lw_all := lw_in1 (List.mem_of_getElem? (i := 132) (by decide +kernel)) rfl
theorem q1_133 : ((Jvm.Cond.soleField "PairedTumblers$WordText" "begin")) ∈ lw_all := lw_in1 (List.mem_of_getElem? (i := 133) (by decide +kernel)) rfl
theorem q1_134 : ((Jvm.Cond.laysFinal "PairedTumblers$WordText" "PairedTumblers$WordText" "middle" "[I")) ∈ lw_all := lw_in1 (List.mem_of_getElem? (i := 134) (by decide +kernel)) rfl
theorem q1_135 : ((Jvm.Cond.soleField "PairedTumblers$WordText" "middle")) ∈ lw_all := lw_in1 (List.mem_of_getElem? (i := 135) (by decide +kernel)) rfl
theorem q1_136 : ((Jvm.Cond.lays "PairedTumblers$WordText" "PairedTumblers$WordText" "open" "I")) ∈ lw_all := lw_in1 (List.mem_of_getElem? (i := 136) (by decide +kernel)) rfl
theorem q1_137 : ((Jvm.Cond.soleField "PairedTumblers$WordText" "open")) ∈ lw_all := lw_in1 (List.mem_of_getElem? (i := 137) (by decide +kernel)) rfl
theorem q1_138 : ((Jvm.Cond.lays "PairedTumblers$WordText" "PairedTumblers$WordText" "hasItem" "Z")) ∈ lw_all := lw_in1 (List.mem_of_getElem? (i := 138) (by decide +kernel)) rfl
theorem q1_139 : ((Jvm.Cond.soleField "PairedTumblers$WordText" "hasItem")) ∈ lw_all := lw_in1 (List.mem_of_getElem? (i := 139) (by decide +kernel)) rfl
theorem q1_140 : ((Jvm.Cond.lays "PairedTumblers$WordText" "PairedTumblers$WordText" "wantsFigure" "Z")) ∈ lw_all := lw_in1 (List.mem_of_getElem? (i := 140) (by decide +kernel)) rfl
theorem q1_141 : ((Jvm.Cond.soleField "PairedTumblers$WordText" "wantsFigure")) ∈ lw_all := lw_in1 (List.mem_of_getElem? (i := 141) (by decide +kernel)) rfl
theorem q1_142 : ((Jvm.Cond.superclass "PairedTumblers$WordText" "java/lang/Object")) ∈ lw_all := lw_in1 (List.mem_of_getElem? (i := 142) (by decide +kernel)) rfl
theorem q1_143 : ((Jvm.Cond.arrayClass Jvm.ClassFile.FieldType.char)) ∈ lw_all := lw_in1 (List.mem_of_getElem? (i := 143) (by decide +kernel)) rfl
theorem q1_144 : (Cond.classLink RX5 38 RX0) ∈ lw_all := lw_in1 (List.mem_of_getElem? (i := 144) (by decide +kernel)) rfl
theorem q1_145 : (Cond.methodLink RX5 40 yX0_init) ∈ lw_all := lw_in1 (List.mem_of_getElem? (i := 145) (by decide +kernel)) rfl
theorem q1_146 : (Cond.classLink RX5 48 RX2) ∈ lw_all := lw_in1 (List.mem_of_getElem? (i := 146) (by decide +kernel)) rfl
theorem q1_147 : (Cond.instantiable RX2 7) ∈ lw_all := lw_in1 (List.mem_of_getElem? (i := 147) (by decide +kernel)) rfl
theorem qn1_148 : (Cond.methodLinkNest RX5 50 yX2_init RX5) ∈ lw_nw := lw_nin1 (List.mem_of_getElem? (i := 148) (by decide +kernel)) rfl
theorem q1_149 : (Cond.instanceMethod yX2_init) ∈ lw_all := lw_in1 (List.mem_of_getElem? (i := 149) (by decide +kernel)) rfl
theorem q1_150 : (Cond.code yX2_init cX2_init 1 none) ∈ lw_all := lw_in1 (List.mem_of_getElem? (i := 150) (by decide +kernel)) rfl
theorem q1_151 : (Cond.methodLink RX2 3 ⟨"java/lang/Object", "<init>", "()V"⟩) ∈ lw_all := lw_in1 (List.mem_of_getElem? (i := 151) (by decide +kernel)) rfl
theorem q1_152 : (Cond.classLink RX2 22 RX0) ∈ lw_all := lw_in1 (List.mem_of_getElem? (i := 152) (by decide +kernel)) rfl
theorem q1_153 : (Cond.methodLink RX2 24 yX0_init) ∈ lw_all := lw_in1 (List.mem_of_getElem? (i := 153) (by decide +kernel)) rfl
theorem q1_154 : (Cond.fieldLink RX2 9 "PairedTumblers$Opener" "near" "[I") ∈ lw_all := lw_in1 (List.mem_of_getElem? (i := 154) (by decide +kernel)) rfl
theorem q1_155 : (Cond.fieldLink RX2 15 "PairedTumblers$Opener" "nearTurns" "[I") ∈ lw_all := lw_in1 (List.mem_of_getElem? (i := 155) (by decide +kernel)) rfl
theorem q1_156 : (Cond.fieldLink RX2 18 "PairedTumblers$Opener" "size" "I") ∈ lw_all := lw_in1 (List.mem_of_getElem? (i := 156) (by decide +kernel)) rfl
theorem q1_157 : (Cond.fieldLink RX2 25 "PairedTumblers$Opener" "one" "LPairedTumblers$Discs;") ∈ lw_all := lw_in1 (List.mem_of_getElem? (i := 157) (by decide +kernel)) rfl
theorem q1_158 : (Cond.fieldLink RX2 29 "PairedTumblers$Opener" "two" "LPairedTumblers$Discs;") ∈ lw_all := lw_in1 (List.mem_of_getElem? (i := 158) (by decide +kernel)) rfl
theorem q1_159 : (Cond.fieldLink RX2 32 "PairedTumblers$Opener" "fewest" "I") ∈ lw_all := lw_in1 (List.mem_of_getElem? (i := 159) (by decide +kernel)) rfl
theorem qn1_160 : (Cond.fieldLinkNest RX5 240 "PairedTumblers$Opener" "fewest" "I" RX5) ∈ lw_nw := lw_nin1 (List.mem_of_getElem? (i := 160) (by decide +kernel)) rfl
theorem q1_161 : (Cond.fieldLink RX2 35 "PairedTumblers$Opener" "first" "I") ∈ lw_all := lw_in1 (List.mem_of_getElem? (i := 161) (by decide +kernel)) rfl
theorem qn1_162 : (Cond.fieldLinkNest RX5 243 "PairedTumblers$Opener" "first" "I" RX5) ∈ lw_nw := lw_nin1 (List.mem_of_getElem? (i := 162) (by decide +kernel)) rfl
theorem q1_163 : ((Jvm.Cond.laysFinal "PairedTumblers$Opener" "PairedTumblers$Opener" "near" "[I")) ∈ lw_all := lw_in1 (List.mem_of_getElem? (i := 163) (by decide +kernel)) rfl
theorem q1_164 : ((Jvm.Cond.soleField "PairedTumblers$Opener" "near")) ∈ lw_all := lw_in1 (List.mem_of_getElem? (i := 164) (by decide +kernel)) rfl
theorem q1_165 : ((Jvm.Cond.laysFinal "PairedTumblers$Opener" "PairedTumblers$Opener" "nearTurns" "[I")) ∈ lw_all := lw_in1 (List.mem_of_getElem? (i := 165) (by decide +kernel)) rfl
theorem q1_166 : ((Jvm.Cond.soleField "PairedTumblers$Opener" "nearTurns")) ∈ lw_all := lw_in1 (List.mem_of_getElem? (i := 166) (by decide +kernel)) rfl
theorem q1_167 : ((Jvm.Cond.lays "PairedTumblers$Opener" "PairedTumblers$Opener" "size" "I")) ∈ lw_all := lw_in1 (List.mem_of_getElem? (i := 167) (by decide +kernel)) rfl
theorem q1_168 : ((Jvm.Cond.soleField "PairedTumblers$Opener" "size")) ∈ lw_all := lw_in1 (List.mem_of_getElem? (i := 168) (by decide +kernel)) rfl
theorem q1_169 : ((Jvm.Cond.laysFinal "PairedTumblers$Opener" "PairedTumblers$Opener" "one" "LPairedTumblers$Discs;")) ∈ lw_all := lw_in1 (List.mem_of_getElem? (i := 169) (by decide +kernel)) rfl
theorem q1_170 : ((Jvm.Cond.soleField "PairedTumblers$Opener" "one")) ∈ lw_all := lw_in1 (List.mem_of_getElem? (i := 170) (by decide +kernel)) rfl
theorem q1_171 : ((Jvm.Cond.laysFinal "PairedTumblers$Opener" "PairedTumblers$Opener" "two" "LPairedTumblers$Discs;")) ∈ lw_all := lw_in1 (List.mem_of_getElem? (i := 171) (by decide +kernel)) rfl
theorem q1_172 : ((Jvm.Cond.soleField "PairedTumblers$Opener" "two")) ∈ lw_all := lw_in1 (List.mem_of_getElem? (i := 172) (by decide +kernel)) rfl
theorem q1_173 : ((Jvm.Cond.lays "PairedTumblers$Opener" "PairedTumblers$Opener" "fewest" "I")) ∈ lw_all := lw_in1 (List.mem_of_getElem? (i := 173) (by decide +kernel)) rfl
theorem q1_174 : ((Jvm.Cond.soleField "PairedTumblers$Opener" "fewest")) ∈ lw_all := lw_in1 (List.mem_of_getElem? (i := 174) (by decide +kernel)) rfl
theorem q1_175 : ((Jvm.Cond.lays "PairedTumblers$Opener" "PairedTumblers$Opener" "first" "I")) ∈ lw_all := lw_in1 (List.mem_of_getElem? (i := 175) (by decide +kernel)) rfl
theorem q1_176 : ((Jvm.Cond.soleField "PairedTumblers$Opener" "first")) ∈ lw_all := lw_in1 (List.mem_of_getElem? (i := 176) (by decide +kernel)) rfl
theorem q1_177 : ((Jvm.Cond.superclass "PairedTumblers$Opener" "java/lang/Object")) ∈ lw_all := lw_in1 (List.mem_of_getElem? (i := 177) (by decide +kernel)) rfl
theorem q1_178 : (Cond.fieldLink RX5 12 "PairedTumblers" "now" "LPairedTumblers$State;") ∈ lw_all := lw_in1 (List.mem_of_getElem? (i := 178) (by decide +kernel)) rfl
theorem q1_179 : (Cond.fieldLink RX5 16 "PairedTumblers" "snapshot" "LPairedTumblers$State;") ∈ lw_all := lw_in1 (List.mem_of_getElem? (i := 179) (by decide +kernel)) rfl
theorem q1_180 : (Cond.fieldLink RX5 19 "PairedTumblers" "hasSnapshot" "Z") ∈ lw_all := lw_in1 (List.mem_of_getElem? (i := 180) (by decide +kernel)) rfl
theorem q1_181 : (Cond.fieldLink RX5 23 "PairedTumblers" "saved" "[LPairedTumblers$State;") ∈ lw_all := lw_in1 (List.mem_of_getElem? (i := 181) (by decide +kernel)) rfl
theorem q1_182 : (Cond.fieldLink RX5 27 "PairedTumblers" "savedCount" "I") ∈ lw_all := lw_in1 (List.mem_of_getElem? (i := 182) (by decide +kernel)) rfl
theorem q1_183 : (Cond.fieldLink RX5 34 "PairedTumblers" "text" "LPairedTumblers$WordText;") ∈ lw_all := lw_in1 (List.mem_of_getElem? (i := 183) (by decide +kernel)) rfl
theorem q1_184 : (Cond.fieldLink RX5 41 "PairedTumblers" "effect" "LPairedTumblers$Discs;") ∈ lw_all := lw_in1 (List.mem_of_getElem? (i := 184) (by decide +kernel)) rfl
theorem q1_185 : (Cond.fieldLink RX5 45 "PairedTumblers" "trial" "LPairedTumblers$Discs;") ∈ lw_all := lw_in1 (List.mem_of_getElem? (i := 185) (by decide +kernel)) rfl
theorem q1_186 : (Cond.fieldLink RX5 51 "PairedTumblers" "opener" "LPairedTumblers$Opener;") ∈ lw_all := lw_in1 (List.mem_of_getElem? (i := 186) (by decide +kernel)) rfl
theorem q1_187 : ((Jvm.Cond.laysFinal "PairedTumblers" "PairedTumblers" "now" "LPairedTumblers$State;")) ∈ lw_all := lw_in1 (List.mem_of_getElem? (i := 187) (by decide +kernel)) rfl
theorem q1_188 : ((Jvm.Cond.soleField "PairedTumblers" "now")) ∈ lw_all := lw_in1 (List.mem_of_getElem? (i := 188) (by decide +kernel)) rfl
theorem q1_189 : ((Jvm.Cond.laysFinal "PairedTumblers" "PairedTumblers" "snapshot" "LPairedTumblers$State;")) ∈ lw_all := lw_in1 (List.mem_of_getElem? (i := 189) (by decide +kernel)) rfl
theorem q1_190 : ((Jvm.Cond.soleField "PairedTumblers" "snapshot")) ∈ lw_all := lw_in1 (List.mem_of_getElem? (i := 190) (by decide +kernel)) rfl
theorem q1_191 : ((Jvm.Cond.lays "PairedTumblers" "PairedTumblers" "hasSnapshot" "Z")) ∈ lw_all := lw_in1 (List.mem_of_getElem? (i := 191) (by decide +kernel)) rfl
theorem q1_192 : ((Jvm.Cond.soleField "PairedTumblers" "hasSnapshot")) ∈ lw_all := lw_in1 (List.mem_of_getElem? (i := 192) (by decide +kernel)) rfl
theorem q1_193 : ((Jvm.Cond.laysFinal "PairedTumblers" "PairedTumblers" "saved" "[LPairedTumblers$State;")) ∈ lw_all := lw_in1 (List.mem_of_getElem? (i := 193) (by decide +kernel)) rfl
theorem q1_194 : ((Jvm.Cond.soleField "PairedTumblers" "saved")) ∈ lw_all := lw_in1 (List.mem_of_getElem? (i := 194) (by decide +kernel)) rfl
theorem q1_195 : ((Jvm.Cond.lays "PairedTumblers" "PairedTumblers" "savedCount" "I")) ∈ lw_all := lw_in1 (List.mem_of_getElem? (i := 195) (by decide +kernel)) rfl
theorem q1_196 : ((Jvm.Cond.soleField "PairedTumblers" "savedCount")) ∈ lw_all := lw_in1 (List.mem_of_getElem? (i := 196) (by decide +kernel)) rfl
theorem q1_197 : ((Jvm.Cond.laysFinal "PairedTumblers" "PairedTumblers" "text" "LPairedTumblers$WordText;")) ∈ lw_all := lw_in1 (List.mem_of_getElem? (i := 197) (by decide +kernel)) rfl
theorem q1_198 : ((Jvm.Cond.soleField "PairedTumblers" "text")) ∈ lw_all := lw_in1 (List.mem_of_getElem? (i := 198) (by decide +kernel)) rfl
theorem q1_199 : ((Jvm.Cond.laysFinal "PairedTumblers" "PairedTumblers" "effect" "LPairedTumblers$Discs;")) ∈ lw_all := lw_in1 (List.mem_of_getElem? (i := 199) (by decide +kernel)) rfl
theorem q1_200 : ((Jvm.Cond.soleField "PairedTumblers" "effect")) ∈ lw_all := lw_in1 (List.mem_of_getElem? (i := 200) (by decide +kernel)) rfl
theorem q1_201 : ((Jvm.Cond.laysFinal "PairedTumblers" "PairedTumblers" "trial" "LPairedTumblers$Discs;")) ∈ lw_all := lw_in1 (List.mem_of_getElem? (i := 201) (by decide +kernel)) rfl
theorem q1_202 : ((Jvm.Cond.soleField "PairedTumblers" "trial")) ∈ lw_all := lw_in1 (List.mem_of_getElem? (i := 202) (by decide +kernel)) rfl
theorem q1_203 : ((Jvm.Cond.laysFinal "PairedTumblers" "PairedTumblers" "opener" "LPairedTumblers$Opener;")) ∈ lw_all := lw_in1 (List.mem_of_getElem? (i := 203) (by decide +kernel)) rfl
theorem q1_204 : ((Jvm.Cond.soleField "PairedTumblers" "opener")) ∈ lw_all := lw_in1 (List.mem_of_getElem? (i := 204) (by decide +kernel)) rfl
theorem q1_205 : ((Jvm.Cond.superclass "PairedTumblers" "java/lang/Object")) ∈ lw_all := lw_in1 (List.mem_of_getElem? (i := 205) (by decide +kernel)) rfl
theorem q1_206 : (Cond.methodLink RL 84 yX5_home) ∈ lw_all := lw_in1 (List.mem_of_getElem? (i := 206) (by decide +kernel)) rfl
theorem q1_207 : (Cond.instanceMethod yX5_home) ∈ lw_all := lw_in1 (List.mem_of_getElem? (i := 207) (by decide +kernel)) rfl
theorem q1_208 : (Cond.selects RX5 yX5_home yX5_home) ∈ lw_all := lw_in1 (List.mem_of_getElem? (i := 208) (by decide +kernel)) rfl
theorem q1_209 : (Cond.code yX5_home cX5_home 2 (some .int)) ∈ lw_all := lw_in1 (List.mem_of_getElem? (i := 209) (by decide +kernel)) rfl
theorem q1_210 : (Cond.methodLink RX5 81 yX5_save) ∈ lw_all := lw_in1 (List.mem_of_getElem? (i := 210) (by decide +kernel)) rfl
theorem q1_212 : (Cond.instanceMethod yX5_save) ∈ lw_all := lw_in1 (List.mem_of_getElem? (i := 212) (by decide +kernel)) rfl
theorem q1_213 : (Cond.code yX5_save cX5_save 1 none) ∈ lw_all := lw_in1 (List.mem_of_getElem? (i := 213) (by decide +kernel)) rfl
theorem q1_214 : (Cond.methodLink RX5 311 yX5_dropOldest) ∈ lw_all := lw_in1 (List.mem_of_getElem? (i := 214) (by decide +kernel)) rfl
theorem q1_216 : (Cond.instanceMethod yX5_dropOldest) ∈ lw_all := lw_in1 (List.mem_of_getElem? (i := 216) (by decide +kernel)) rfl
theorem q1_217 : (Cond.code yX5_dropOldest cX5_dropOldest 3 none) ∈ lw_all := lw_in1 (List.mem_of_getElem? (i := 217) (by decide +kernel)) rfl
theorem q1_218 : (Cond.methodLink RX5 314 yX5_writeSaved) ∈ lw_all := lw_in1 (List.mem_of_getElem? (i := 218) (by decide +kernel)) rfl
theorem q1_220 : (Cond.instanceMethod yX5_writeSaved) ∈ lw_all := lw_in1 (List.mem_of_getElem? (i := 220) (by decide +kernel)) rfl
theorem q1_221 : (Cond.code yX5_writeSaved cX5_writeSaved 2 none) ∈ lw_all := lw_in1 (List.mem_of_getElem? (i := 221) (by decide +kernel)) rfl
theorem q1_222 : (Cond.methodLink RX5 167 yX3_copyFrom) ∈ lw_all := lw_in1 (List.mem_of_getElem? (i := 222) (by decide +kernel)) rfl
theorem q1_223 : (Cond.instanceMethod yX3_copyFrom) ∈ lw_all := lw_in1 (List.mem_of_getElem? (i := 223) (by decide +kernel)) rfl
theorem q1_224 : (Cond.selects RX3 yX3_copyFrom yX3_copyFrom) ∈ lw_all := lw_in1 (List.mem_of_getElem? (i := 224) (by decide +kernel)) rfl
theorem q1_225 : (Cond.code yX3_copyFrom cX3_copyFrom 3 none) ∈ lw_all := lw_in1 (List.mem_of_getElem? (i := 225) (by decide +kernel)) rfl
theorem q1_226 : (Cond.methodLink RX3 49 yX0_copyFrom) ∈ lw_all := lw_in1 (List.mem_of_getElem? (i := 226) (by decide +kernel)) rfl
theorem q1_227 : (Cond.instanceMethod yX0_copyFrom) ∈ lw_all := lw_in1 (List.mem_of_getElem? (i := 227) (by decide +kernel)) rfl
theorem q1_228 : (Cond.selects RX0 yX0_copyFrom yX0_copyFrom) ∈ lw_all := lw_in1 (List.mem_of_getElem? (i := 228) (by decide +kernel)) rfl
theorem q1_229 : (Cond.code yX0_copyFrom cX0_copyFrom 3 none) ∈ lw_all := lw_in1 (List.mem_of_getElem? (i := 229) (by decide +kernel)) rfl
theorem q1_230 : (Cond.methodLink RX3 53 yX1_copyFrom) ∈ lw_all := lw_in1 (List.mem_of_getElem? (i := 230) (by decide +kernel)) rfl
theorem q1_231 : (Cond.instanceMethod yX1_copyFrom) ∈ lw_all := lw_in1 (List.mem_of_getElem? (i := 231) (by decide +kernel)) rfl
theorem q1_232 : (Cond.selects RX1 yX1_copyFrom yX1_copyFrom) ∈ lw_all := lw_in1 (List.mem_of_getElem? (i := 232) (by decide +kernel)) rfl
theorem q1_233 : (Cond.code yX1_copyFrom cX1_copyFrom 3 none) ∈ lw_all := lw_in1 (List.mem_of_getElem? (i := 233) (by decide +kernel)) rfl
theorem q1_234 : (Cond.methodLink RX5 102 yX0_reach) ∈ lw_all := lw_in1 (List.mem_of_getElem? (i := 234) (by decide +kernel)) rfl
theorem q1_235 : (Cond.instanceMethod yX0_reach) ∈ lw_all := lw_in1 (List.mem_of_getElem? (i := 235) (by decide +kernel)) rfl
theorem q1_236 : (Cond.selects RX0 yX0_reach yX0_reach) ∈ lw_all := lw_in1 (List.mem_of_getElem? (i := 236) (by decide +kernel)) rfl
theorem q1_237 : (Cond.code yX0_reach cX0_reach 3 (some .int)) ∈ lw_all := lw_in1 (List.mem_of_getElem? (i := 237) (by decide +kernel)) rfl
theorem q1_238 : (Cond.methodLink RX5 105 yJ6_bitCount_0f7a4) ∈ lw_all := lw_in1 (List.mem_of_getElem? (i := 238) (by decide +kernel)) rfl
theorem q1_239 : (Cond.static yJ6_bitCount_0f7a4) ∈ lw_all := lw_in1 (List.mem_of_getElem? (i := 239) (by decide +kernel)) rfl
theorem q2_0 : (Cond.code yJ6_bitCount_0f7a4 cJ6_bitCount_0f7a4 1 (some .int)) ∈ lw_all := lw_in2 (List.mem_of_getElem? (i := 0) (by decide +kernel)) rfl
theorem q2_1 : ((Jvm.Cond.constant "java/lang/Integer" (265 : Nat) (1431655765 : Int32))) ∈ lw_all := lw_in2 (List.mem_of_getElem? (i := 1) (by decide +kernel)) rfl
theorem q2_2 : ((Jvm.Cond.constant "java/lang/Integer" (266 : Nat) (858993459 : Int32))) ∈ lw_all := lw_in2 (List.mem_of_getElem? (i := 2) (by decide +kernel)) rfl
theorem q2_3 : ((Jvm.Cond.constant "java/lang/Integer" (267 : Nat) (252645135 : Int32))) ∈ lw_all := lw_in2 (List.mem_of_getElem? (i := 3) (by decide +kernel)) rfl
theorem q2_4 : (Cond.methodLink RX5 110 yX0_bringHome) ∈ lw_all := lw_in2 (List.mem_of_getElem? (i := 4) (by decide +kernel)) rfl
theorem q2_5 : (Cond.instanceMethod yX0_bringHome) ∈ lw_all := lw_in2 (List.mem_of_getElem? (i := 5) (by decide +kernel)) rfl
theorem q2_6 : (Cond.selects RX0 yX0_bringHome yX0_bringHome) ∈ lw_all := lw_in2 (List.mem_of_getElem? (i := 6) (by decide +kernel)) rfl
theorem q2_7 : (Cond.code yX0_bringHome cX0_bringHome 2 none) ∈ lw_all := lw_in2 (List.mem_of_getElem? (i := 7) (by decide +kernel)) rfl
theorem q2_8 : (Cond.methodLink RL 95 yX5_learn) ∈ lw_all := lw_in2 (List.mem_of_getElem? (i := 8) (by decide +kernel)) rfl
theorem q2_9 : (Cond.instanceMethod yX5_learn) ∈ lw_all := lw_in2 (List.mem_of_getElem? (i := 9) (by decide +kernel)) rfl
theorem q2_10 : (Cond.selects RX5 yX5_learn yX5_learn) ∈ lw_all := lw_in2 (List.mem_of_getElem? (i := 10) (by decide +kernel)) rfl
theorem q2_11 : (Cond.code yX5_learn cX5_learn 1 (some .int)) ∈ lw_all := lw_in2 (List.mem_of_getElem? (i := 11) (by decide +kernel)) rfl
theorem q2_12 : (Cond.methodLink RX5 149 yX0_copyFrom) ∈ lw_all := lw_in2 (List.mem_of_getElem? (i := 12) (by decide +kernel)) rfl
theorem q2_13 : (Cond.methodLink RX5 156 yX0_notchSum) ∈ lw_all := lw_in2 (List.mem_of_getElem? (i := 13) (by decide +kernel)) rfl
theorem q2_14 : (Cond.instanceMethod yX0_notchSum) ∈ lw_all := lw_in2 (List.mem_of_getElem? (i := 14) (by decide +kernel)) rfl
theorem q2_15 : (Cond.selects RX0 yX0_notchSum yX0_notchSum) ∈ lw_all := lw_in2 (List.mem_of_getElem? (i := 15) (by decide +kernel)) rfl
theorem q2_16 : (Cond.code yX0_notchSum cX0_notchSum 3 (some .int)) ∈ lw_all := lw_in2 (List.mem_of_getElem? (i := 16) (by decide +kernel)) rfl
theorem q2_17 : (Cond.methodLink RL 102 yX5_clearBuffer) ∈ lw_all := lw_in2 (List.mem_of_getElem? (i := 17) (by decide +kernel)) rfl
theorem q2_18 : (Cond.instanceMethod yX5_clearBuffer) ∈ lw_all := lw_in2 (List.mem_of_getElem? (i := 18) (by decide +kernel)) rfl
theorem q2_19 : (Cond.selects RX5 yX5_clearBuffer yX5_clearBuffer) ∈ lw_all := lw_in2 (List.mem_of_getElem? (i := 19) (by decide +kernel)) rfl
theorem q2_20 : (Cond.code yX5_clearBuffer cX5_clearBuffer 2 (some .int)) ∈ lw_all := lw_in2 (List.mem_of_getElem? (i := 20) (by decide +kernel)) rfl
theorem q2_21 : (Cond.methodLink RL 106 yX5_firstError) ∈ lw_all := lw_in2 (List.mem_of_getElem? (i := 21) (by decide +kernel)) rfl
theorem q2_22 : (Cond.instanceMethod yX5_firstError) ∈ lw_all := lw_in2 (List.mem_of_getElem? (i := 22) (by decide +kernel)) rfl
theorem q2_23 : (Cond.selects RX5 yX5_firstError yX5_firstError) ∈ lw_all := lw_in2 (List.mem_of_getElem? (i := 23) (by decide +kernel)) rfl
theorem q2_24 : (Cond.code yX5_firstError cX5_firstError 1 (some .int)) ∈ lw_all := lw_in2 (List.mem_of_getElem? (i := 24) (by decide +kernel)) rfl
theorem q2_25 : (Cond.methodLink RX5 59 yX4_read) ∈ lw_all := lw_in2 (List.mem_of_getElem? (i := 25) (by decide +kernel)) rfl
theorem q2_26 : (Cond.instanceMethod yX4_read) ∈ lw_all := lw_in2 (List.mem_of_getElem? (i := 26) (by decide +kernel)) rfl
theorem q2_27 : (Cond.selects RX4 yX4_read yX4_read) ∈ lw_all := lw_in2 (List.mem_of_getElem? (i := 27) (by decide +kernel)) rfl
theorem q2_28 : (Cond.code yX4_read cX4_read 2 (some .int)) ∈ lw_all := lw_in2 (List.mem_of_getElem? (i := 28) (by decide +kernel)) rfl
theorem q2_29 : (Cond.methodLink RX4 52 yX4_signAt) ∈ lw_all := lw_in2 (List.mem_of_getElem? (i := 29) (by decide +kernel)) rfl
theorem q2_30 : (Cond.instanceMethod yX4_signAt) ∈ lw_all := lw_in2 (List.mem_of_getElem? (i := 30) (by decide +kernel)) rfl
theorem q2_31 : (Cond.selects RX4 yX4_signAt yX4_signAt) ∈ lw_all := lw_in2 (List.mem_of_getElem? (i := 31) (by decide +kernel)) rfl
theorem q2_32 : (Cond.code yX4_signAt cX4_signAt 2 (some .char)) ∈ lw_all := lw_in2 (List.mem_of_getElem? (i := 32) (by decide +kernel)) rfl
theorem q2_33 : (Cond.methodLink RX4 56 yX4_takes) ∈ lw_all := lw_in2 (List.mem_of_getElem? (i := 33) (by decide +kernel)) rfl
theorem q2_35 : (Cond.instanceMethod yX4_takes) ∈ lw_all := lw_in2 (List.mem_of_getElem? (i := 35) (by decide +kernel)) rfl
theorem q2_36 : (Cond.code yX4_takes cX4_takes 2 (some .boolean)) ∈ lw_all := lw_in2 (List.mem_of_getElem? (i := 36) (by decide +kernel)) rfl
theorem q2_37 : (Cond.methodLink RX4 60 yX4_takesFigure) ∈ lw_all := lw_in2 (List.mem_of_getElem? (i := 37) (by decide +kernel)) rfl
theorem q2_39 : (Cond.instanceMethod yX4_takesFigure) ∈ lw_all := lw_in2 (List.mem_of_getElem? (i := 39) (by decide +kernel)) rfl
theorem q2_40 : (Cond.code yX4_takesFigure cX4_takesFigure 3 (some .boolean)) ∈ lw_all := lw_in2 (List.mem_of_getElem? (i := 40) (by decide +kernel)) rfl
theorem q2_41 : (Cond.methodLink RX4 84 yX4_repeat) ∈ lw_all := lw_in2 (List.mem_of_getElem? (i := 41) (by decide +kernel)) rfl
theorem q2_43 : (Cond.instanceMethod yX4_repeat) ∈ lw_all := lw_in2 (List.mem_of_getElem? (i := 43) (by decide +kernel)) rfl
theorem q2_44 : (Cond.code yX4_repeat cX4_repeat 6 none) ∈ lw_all := lw_in2 (List.mem_of_getElem? (i := 44) (by decide +kernel)) rfl
theorem q2_45 : (Cond.methodLink RX4 88 yX4_moveAt) ∈ lw_all := lw_in2 (List.mem_of_getElem? (i := 45) (by decide +kernel)) rfl
theorem q2_46 : (Cond.instanceMethod yX4_moveAt) ∈ lw_all := lw_in2 (List.mem_of_getElem? (i := 46) (by decide +kernel)) rfl
theorem q2_47 : (Cond.selects RX4 yX4_moveAt yX4_moveAt) ∈ lw_all := lw_in2 (List.mem_of_getElem? (i := 47) (by decide +kernel)) rfl
theorem q2_48 : (Cond.code yX4_moveAt cX4_moveAt 2 (some .int)) ∈ lw_all := lw_in2 (List.mem_of_getElem? (i := 48) (by decide +kernel)) rfl
theorem q2_49 : (Cond.methodLink RX4 76 yX4_addMove) ∈ lw_all := lw_in2 (List.mem_of_getElem? (i := 49) (by decide +kernel)) rfl
theorem q2_51 : (Cond.instanceMethod yX4_addMove) ∈ lw_all := lw_in2 (List.mem_of_getElem? (i := 51) (by decide +kernel)) rfl
theorem q2_52 : (Cond.code yX4_addMove cX4_addMove 2 none) ∈ lw_all := lw_in2 (List.mem_of_getElem? (i := 52) (by decide +kernel)) rfl
theorem qn2_53 : (Cond.methodLinkNest RX4 63 yX5_moveOf RX5) ∈ lw_nw := lw_nin2 (List.mem_of_getElem? (i := 53) (by decide +kernel)) rfl
theorem q2_54 : (Cond.static yX5_moveOf) ∈ lw_all := lw_in2 (List.mem_of_getElem? (i := 54) (by decide +kernel)) rfl
theorem q2_55 : (Cond.code yX5_moveOf cX5_moveOf 2 (some .int)) ∈ lw_all := lw_in2 (List.mem_of_getElem? (i := 55) (by decide +kernel)) rfl
theorem q2_56 : (Cond.methodLink RX4 67 yX4_takesMove) ∈ lw_all := lw_in2 (List.mem_of_getElem? (i := 56) (by decide +kernel)) rfl
theorem q2_58 : (Cond.instanceMethod yX4_takesMove) ∈ lw_all := lw_in2 (List.mem_of_getElem? (i := 58) (by decide +kernel)) rfl
theorem q2_59 : (Cond.code yX4_takesMove cX4_takesMove 2 (some .boolean)) ∈ lw_all := lw_in2 (List.mem_of_getElem? (i := 59) (by decide +kernel)) rfl
theorem q2_60 : (Cond.methodLink RX4 70 yX4_takesOpening) ∈ lw_all := lw_in2 (List.mem_of_getElem? (i := 60) (by decide +kernel)) rfl
theorem q2_62 : (Cond.instanceMethod yX4_takesOpening) ∈ lw_all := lw_in2 (List.mem_of_getElem? (i := 62) (by decide +kernel)) rfl
theorem q2_63 : (Cond.code yX4_takesOpening cX4_takesOpening 2 (some .boolean)) ∈ lw_all := lw_in2 (List.mem_of_getElem? (i := 63) (by decide +kernel)) rfl
theorem q2_64 : (Cond.methodLink RX4 73 yX4_takesInBracket) ∈ lw_all := lw_in2 (List.mem_of_getElem? (i := 64) (by decide +kernel)) rfl
theorem q2_66 : (Cond.instanceMethod yX4_takesInBracket) ∈ lw_all := lw_in2 (List.mem_of_getElem? (i := 66) (by decide +kernel)) rfl
theorem q2_67 : (Cond.code yX4_takesInBracket cX4_takesInBracket 3 (some .boolean)) ∈ lw_all := lw_in2 (List.mem_of_getElem? (i := 67) (by decide +kernel)) rfl
theorem q2_68 : (Cond.methodLink RX4 80 yX4_addOpposite) ∈ lw_all := lw_in2 (List.mem_of_getElem? (i := 68) (by decide +kernel)) rfl
theorem q2_70 : (Cond.instanceMethod yX4_addOpposite) ∈ lw_all := lw_in2 (List.mem_of_getElem? (i := 70) (by decide +kernel)) rfl
theorem q2_71 : (Cond.code yX4_addOpposite cX4_addOpposite 6 none) ∈ lw_all := lw_in2 (List.mem_of_getElem? (i := 71) (by decide +kernel)) rfl
theorem qn2_72 : (Cond.methodLinkNest RX4 92 yX5_opposite RX5) ∈ lw_nw := lw_nin2 (List.mem_of_getElem? (i := 72) (by decide +kernel)) rfl
theorem q2_73 : (Cond.static yX5_opposite) ∈ lw_all := lw_in2 (List.mem_of_getElem? (i := 73) (by decide +kernel)) rfl
theorem q2_74 : (Cond.code yX5_opposite cX5_opposite 1 (some .int)) ∈ lw_all := lw_in2 (List.mem_of_getElem? (i := 74) (by decide +kernel)) rfl
theorem q2_75 : (Cond.methodLink RX5 353 yX5_keyOf) ∈ lw_all := lw_in2 (List.mem_of_getElem? (i := 75) (by decide +kernel)) rfl
theorem q2_76 : (Cond.static yX5_keyOf) ∈ lw_all := lw_in2 (List.mem_of_getElem? (i := 76) (by decide +kernel)) rfl
theorem q2_77 : (Cond.code yX5_keyOf cX5_keyOf 1 (some .int)) ∈ lw_all := lw_in2 (List.mem_of_getElem? (i := 77) (by decide +kernel)) rfl
theorem q2_78 : (Cond.methodLink RX5 356 yX5_isBack) ∈ lw_all := lw_in2 (List.mem_of_getElem? (i := 78) (by decide +kernel)) rfl
theorem q2_79 : (Cond.static yX5_isBack) ∈ lw_all := lw_in2 (List.mem_of_getElem? (i := 79) (by decide +kernel)) rfl
theorem q2_80 : (Cond.code yX5_isBack cX5_isBack 1 (some .boolean)) ∈ lw_all := lw_in2 (List.mem_of_getElem? (i := 80) (by decide +kernel)) rfl
theorem q2_81 : (Cond.methodLink RX5 248 yX5_moveOf) ∈ lw_all := lw_in2 (List.mem_of_getElem? (i := 81) (by decide +kernel)) rfl
theorem q2_82 : (Cond.methodLink RL 110 yX5_keep) ∈ lw_all := lw_in2 (List.mem_of_getElem? (i := 82) (by decide +kernel)) rfl
end
section
theorem q2_83 : (Cond.instanceMethod yX5_keep) ∈ lw_all := lw_in2 (List.mem_of_getElem? (i := 83) (by decide +kernel)) rfl
theorem q2_84 : (Cond.selects RX5 yX5_keep yX5_keep) ∈ lw_all := lw_in2 (List.mem_of_getElem? (i := 84) (by decide +kernel)) rfl
theorem q2_85 : (Cond.code yX5_keep cX5_keep 1 (some .int)) ∈ lw_all := lw_in2 (List.mem_of_getElem? (i := 85) (by decide +kernel)) rfl
theorem q2_86 : (Cond.methodLink RL 142 yX5_closest) ∈ lw_all := lw_in2 (List.mem_of_getElem? (i := 86) (by decide +kernel)) rfl
theorem q2_87 : (Cond.instanceMethod yX5_closest) ∈ lw_all := lw_in2 (List.mem_of_getElem? (i := 87) (by decide +kernel)) rfl
theorem q2_88 : (Cond.selects RX5 yX5_closest yX5_closest) ∈ lw_all := lw_in2 (List.mem_of_getElem? (i := 88) (by decide +kernel)) rfl
theorem q2_89 : (Cond.code yX5_closest cX5_closest 6 (some .int)) ∈ lw_all := lw_in2 (List.mem_of_getElem? (i := 89) (by decide +kernel)) rfl
theorem q2_90 : (Cond.methodLink RX5 209 yX5_showPair) ∈ lw_all := lw_in2 (List.mem_of_getElem? (i := 90) (by decide +kernel)) rfl
theorem q2_92 : (Cond.instanceMethod yX5_showPair) ∈ lw_all := lw_in2 (List.mem_of_getElem? (i := 92) (by decide +kernel)) rfl
theorem q2_93 : (Cond.code yX5_showPair cX5_showPair 3 none) ∈ lw_all := lw_in2 (List.mem_of_getElem? (i := 93) (by decide +kernel)) rfl
theorem q2_94 : (Cond.methodLink RX5 251 yX1_move) ∈ lw_all := lw_in2 (List.mem_of_getElem? (i := 94) (by decide +kernel)) rfl
theorem q2_95 : (Cond.instanceMethod yX1_move) ∈ lw_all := lw_in2 (List.mem_of_getElem? (i := 95) (by decide +kernel)) rfl
theorem q2_96 : (Cond.selects RX1 yX1_move yX1_move) ∈ lw_all := lw_in2 (List.mem_of_getElem? (i := 96) (by decide +kernel)) rfl
theorem q2_97 : (Cond.code yX1_move cX1_move 4 none) ∈ lw_all := lw_in2 (List.mem_of_getElem? (i := 97) (by decide +kernel)) rfl
theorem qn2_98 : (Cond.methodLinkNest RX1 18 yX5_keyOf RX5) ∈ lw_nw := lw_nin2 (List.mem_of_getElem? (i := 98) (by decide +kernel)) rfl
theorem q2_99 : (Cond.methodLink RX1 22 yX1_maskOf) ∈ lw_all := lw_in2 (List.mem_of_getElem? (i := 99) (by decide +kernel)) rfl
theorem q2_100 : (Cond.instanceMethod yX1_maskOf) ∈ lw_all := lw_in2 (List.mem_of_getElem? (i := 100) (by decide +kernel)) rfl
theorem q2_101 : (Cond.selects RX1 yX1_maskOf yX1_maskOf) ∈ lw_all := lw_in2 (List.mem_of_getElem? (i := 101) (by decide +kernel)) rfl
theorem q2_102 : (Cond.code yX1_maskOf cX1_maskOf 2 (some .int)) ∈ lw_all := lw_in2 (List.mem_of_getElem? (i := 102) (by decide +kernel)) rfl
theorem q2_103 : (Cond.methodLink RX1 25 yX1_strengthOf) ∈ lw_all := lw_in2 (List.mem_of_getElem? (i := 103) (by decide +kernel)) rfl
theorem q2_104 : (Cond.instanceMethod yX1_strengthOf) ∈ lw_all := lw_in2 (List.mem_of_getElem? (i := 104) (by decide +kernel)) rfl
theorem q2_105 : (Cond.selects RX1 yX1_strengthOf yX1_strengthOf) ∈ lw_all := lw_in2 (List.mem_of_getElem? (i := 105) (by decide +kernel)) rfl
theorem q2_106 : (Cond.code yX1_strengthOf cX1_strengthOf 2 (some .int)) ∈ lw_all := lw_in2 (List.mem_of_getElem? (i := 106) (by decide +kernel)) rfl
theorem qn2_107 : (Cond.methodLinkNest RX1 28 yX5_isBack RX5) ∈ lw_nw := lw_nin2 (List.mem_of_getElem? (i := 107) (by decide +kernel)) rfl
theorem q2_108 : (Cond.methodLink RX1 32 yX0_rotate) ∈ lw_all := lw_in2 (List.mem_of_getElem? (i := 108) (by decide +kernel)) rfl
theorem q2_109 : (Cond.instanceMethod yX0_rotate) ∈ lw_all := lw_in2 (List.mem_of_getElem? (i := 109) (by decide +kernel)) rfl
theorem q2_110 : (Cond.selects RX0 yX0_rotate yX0_rotate) ∈ lw_all := lw_in2 (List.mem_of_getElem? (i := 110) (by decide +kernel)) rfl
theorem q2_111 : (Cond.code yX0_rotate cX0_rotate 12 none) ∈ lw_all := lw_in2 (List.mem_of_getElem? (i := 111) (by decide +kernel)) rfl
theorem q2_112 : (Cond.methodLink RL 146 yX5_openShare) ∈ lw_all := lw_in2 (List.mem_of_getElem? (i := 112) (by decide +kernel)) rfl
theorem q2_113 : (Cond.instanceMethod yX5_openShare) ∈ lw_all := lw_in2 (List.mem_of_getElem? (i := 113) (by decide +kernel)) rfl
theorem q2_114 : (Cond.selects RX5 yX5_openShare yX5_openShare) ∈ lw_all := lw_in2 (List.mem_of_getElem? (i := 114) (by decide +kernel)) rfl
theorem q2_115 : (Cond.code yX5_openShare cX5_openShare 1 (some .double)) ∈ lw_all := lw_in2 (List.mem_of_getElem? (i := 115) (by decide +kernel)) rfl
theorem q2_116 : (Cond.methodLink RX5 226 yX3_asInSecret) ∈ lw_all := lw_in2 (List.mem_of_getElem? (i := 116) (by decide +kernel)) rfl
theorem q2_117 : (Cond.instanceMethod yX3_asInSecret) ∈ lw_all := lw_in2 (List.mem_of_getElem? (i := 117) (by decide +kernel)) rfl
theorem q2_118 : (Cond.selects RX3 yX3_asInSecret yX3_asInSecret) ∈ lw_all := lw_in2 (List.mem_of_getElem? (i := 118) (by decide +kernel)) rfl
theorem q2_119 : (Cond.code yX3_asInSecret cX3_asInSecret 2 (some .int)) ∈ lw_all := lw_in2 (List.mem_of_getElem? (i := 119) (by decide +kernel)) rfl
theorem q2_120 : (Cond.methodLink RX3 67 yX0_agreeing) ∈ lw_all := lw_in2 (List.mem_of_getElem? (i := 120) (by decide +kernel)) rfl
theorem q2_121 : (Cond.instanceMethod yX0_agreeing) ∈ lw_all := lw_in2 (List.mem_of_getElem? (i := 121) (by decide +kernel)) rfl
theorem q2_122 : (Cond.selects RX0 yX0_agreeing yX0_agreeing) ∈ lw_all := lw_in2 (List.mem_of_getElem? (i := 122) (by decide +kernel)) rfl
theorem q2_123 : (Cond.code yX0_agreeing cX0_agreeing 4 (some .int)) ∈ lw_all := lw_in2 (List.mem_of_getElem? (i := 123) (by decide +kernel)) rfl
theorem q2_124 : ((Jvm.Cond.constantDouble "PairedTumblers" (255 : Nat) (4618441417868443648 : UInt64))) ∈ lw_all := lw_in2 (List.mem_of_getElem? (i := 124) (by decide +kernel)) rfl
theorem q2_125 : (Cond.methodLink RL 151 yX5_meanNotch) ∈ lw_all := lw_in2 (List.mem_of_getElem? (i := 125) (by decide +kernel)) rfl
theorem q2_126 : (Cond.instanceMethod yX5_meanNotch) ∈ lw_all := lw_in2 (List.mem_of_getElem? (i := 126) (by decide +kernel)) rfl
theorem q2_127 : (Cond.selects RX5 yX5_meanNotch yX5_meanNotch) ∈ lw_all := lw_in2 (List.mem_of_getElem? (i := 127) (by decide +kernel)) rfl
theorem q2_128 : (Cond.code yX5_meanNotch cX5_meanNotch 1 (some .float)) ∈ lw_all := lw_in2 (List.mem_of_getElem? (i := 128) (by decide +kernel)) rfl
theorem q2_129 : ((Jvm.Cond.constantFloat "PairedTumblers" (257 : Nat) (1086324736 : UInt32))) ∈ lw_all := lw_in2 (List.mem_of_getElem? (i := 129) (by decide +kernel)) rfl
theorem q2_130 : (Cond.methodLink RL 156 yX5_digest) ∈ lw_all := lw_in2 (List.mem_of_getElem? (i := 130) (by decide +kernel)) rfl
theorem q2_131 : (Cond.instanceMethod yX5_digest) ∈ lw_all := lw_in2 (List.mem_of_getElem? (i := 131) (by decide +kernel)) rfl
theorem q2_132 : (Cond.selects RX5 yX5_digest yX5_digest) ∈ lw_all := lw_in2 (List.mem_of_getElem? (i := 132) (by decide +kernel)) rfl
theorem q2_133 : (Cond.code yX5_digest cX5_digest 4 (some .long)) ∈ lw_all := lw_in2 (List.mem_of_getElem? (i := 133) (by decide +kernel)) rfl
theorem q2_134 : ((Jvm.Cond.constantLong "PairedTumblers" (258 : Nat) (3769 : Int64))) ∈ lw_all := lw_in2 (List.mem_of_getElem? (i := 134) (by decide +kernel)) rfl
theorem q2_135 : (Cond.methodLink RX5 260 yX5_count) ∈ lw_all := lw_in2 (List.mem_of_getElem? (i := 135) (by decide +kernel)) rfl
theorem q2_136 : (Cond.instanceMethod yX5_count) ∈ lw_all := lw_in2 (List.mem_of_getElem? (i := 136) (by decide +kernel)) rfl
theorem q2_137 : (Cond.selects RX5 yX5_count yX5_count) ∈ lw_all := lw_in2 (List.mem_of_getElem? (i := 137) (by decide +kernel)) rfl
theorem q2_138 : (Cond.code yX5_count cX5_count 2 (some .int)) ∈ lw_all := lw_in2 (List.mem_of_getElem? (i := 138) (by decide +kernel)) rfl
theorem q2_139 : (Cond.methodLink RX5 222 yX3_opens) ∈ lw_all := lw_in2 (List.mem_of_getElem? (i := 139) (by decide +kernel)) rfl
theorem q2_140 : (Cond.instanceMethod yX3_opens) ∈ lw_all := lw_in2 (List.mem_of_getElem? (i := 140) (by decide +kernel)) rfl
theorem q2_141 : (Cond.selects RX3 yX3_opens yX3_opens) ∈ lw_all := lw_in2 (List.mem_of_getElem? (i := 141) (by decide +kernel)) rfl
theorem q2_142 : (Cond.code yX3_opens cX3_opens 1 (some .boolean)) ∈ lw_all := lw_in2 (List.mem_of_getElem? (i := 142) (by decide +kernel)) rfl
theorem q2_143 : (Cond.methodLink RX3 71 yX3_asInSecret) ∈ lw_all := lw_in2 (List.mem_of_getElem? (i := 143) (by decide +kernel)) rfl
theorem q2_144 : (Cond.methodLink RX5 143 yX3_stuckKeys) ∈ lw_all := lw_in2 (List.mem_of_getElem? (i := 144) (by decide +kernel)) rfl
theorem q2_145 : (Cond.instanceMethod yX3_stuckKeys) ∈ lw_all := lw_in2 (List.mem_of_getElem? (i := 145) (by decide +kernel)) rfl
theorem q2_146 : (Cond.selects RX3 yX3_stuckKeys yX3_stuckKeys) ∈ lw_all := lw_in2 (List.mem_of_getElem? (i := 146) (by decide +kernel)) rfl
theorem q2_147 : (Cond.code yX3_stuckKeys cX3_stuckKeys 3 (some .int)) ∈ lw_all := lw_in2 (List.mem_of_getElem? (i := 147) (by decide +kernel)) rfl
theorem q2_148 : (Cond.methodLink RX3 63 yX3_allows) ∈ lw_all := lw_in2 (List.mem_of_getElem? (i := 148) (by decide +kernel)) rfl
theorem q2_149 : (Cond.instanceMethod yX3_allows) ∈ lw_all := lw_in2 (List.mem_of_getElem? (i := 149) (by decide +kernel)) rfl
theorem q2_150 : (Cond.selects RX3 yX3_allows yX3_allows) ∈ lw_all := lw_in2 (List.mem_of_getElem? (i := 150) (by decide +kernel)) rfl
theorem q2_151 : (Cond.code yX3_allows cX3_allows 2 (some .boolean)) ∈ lw_all := lw_in2 (List.mem_of_getElem? (i := 151) (by decide +kernel)) rfl
theorem qn2_152 : (Cond.methodLinkNest RX3 56 yX5_keyOf RX5) ∈ lw_nw := lw_nin2 (List.mem_of_getElem? (i := 152) (by decide +kernel)) rfl
theorem q2_153 : (Cond.methodLink RX3 60 yX1_maskOf) ∈ lw_all := lw_in2 (List.mem_of_getElem? (i := 153) (by decide +kernel)) rfl
theorem q2_154 : (Cond.classLink RX5 66 "java/lang/IllegalArgumentException") ∈ lw_all := lw_in2 (List.mem_of_getElem? (i := 154) (by decide +kernel)) rfl
theorem q2_155 : (Cond.instantiable "java/lang/IllegalArgumentException" 6) ∈ lw_all := lw_in2 (List.mem_of_getElem? (i := 155) (by decide +kernel)) rfl
theorem qn2_156 : ((Jvm.Cond.castable "java/lang/IllegalArgumentException" "java/lang/IllegalArgumentException")) ∈ lw_nw := lw_nin2 (List.mem_of_getElem? (i := 156) (by decide +kernel)) rfl
theorem qn2_157 : (Cond.declares ⟨"java/lang/RuntimeException", "<init>", "()V"⟩) ∈ lw_nw := lw_nin2 (List.mem_of_getElem? (i := 157) (by decide +kernel)) rfl
theorem qn2_158 : (Cond.declares ⟨"java/lang/RuntimeException", "<init>", "(Ljava/lang/String;)V"⟩) ∈ lw_nw := lw_nin2 (List.mem_of_getElem? (i := 158) (by decide +kernel)) rfl
theorem qn2_159 : (Cond.declares ⟨"java/lang/Exception", "<init>", "()V"⟩) ∈ lw_nw := lw_nin2 (List.mem_of_getElem? (i := 159) (by decide +kernel)) rfl
theorem qn2_160 : (Cond.declares ⟨"java/lang/Exception", "<init>", "(Ljava/lang/String;)V"⟩) ∈ lw_nw := lw_nin2 (List.mem_of_getElem? (i := 160) (by decide +kernel)) rfl
theorem qn2_161 : (Cond.declares ⟨"java/lang/Throwable", "<init>", "()V"⟩) ∈ lw_nw := lw_nin2 (List.mem_of_getElem? (i := 161) (by decide +kernel)) rfl
theorem qn2_162 : (Cond.declares ⟨"java/lang/Throwable", "<init>", "(Ljava/lang/String;)V"⟩) ∈ lw_nw := lw_nin2 (List.mem_of_getElem? (i := 162) (by decide +kernel)) rfl
theorem q2_163 : (Cond.selects "java/lang/IllegalArgumentException" ⟨"java/lang/Throwable", "fillInStackTrace", "(I)Ljava/lang/Throwable;"⟩ ⟨"java/lang/Throwable", "fillInStackTrace", "(I)Ljava/lang/Throwable;"⟩) ∈ lw_all := lw_in2 (List.mem_of_getElem? (i := 163) (by decide +kernel)) rfl
theorem q2_164 : (Cond.selects "java/lang/IllegalArgumentException" ⟨"java/lang/Throwable", "fillInStackTrace", "()Ljava/lang/Throwable;"⟩ ⟨"java/lang/Throwable", "fillInStackTrace", "()Ljava/lang/Throwable;"⟩) ∈ lw_all := lw_in2 (List.mem_of_getElem? (i := 164) (by decide +kernel)) rfl
theorem q2_165 : ((Jvm.Cond.lays "java/lang/IllegalArgumentException" "java/lang/Throwable" "cause" "Ljava/lang/Throwable;")) ∈ lw_all := lw_in2 (List.mem_of_getElem? (i := 165) (by decide +kernel)) rfl
theorem q2_166 : ((Jvm.Cond.lays "java/lang/Throwable" "java/lang/Throwable" "cause" "Ljava/lang/Throwable;")) ∈ lw_all := lw_in2 (List.mem_of_getElem? (i := 166) (by decide +kernel)) rfl
theorem q2_167 : ((Jvm.Cond.lays "java/lang/IllegalArgumentException" "java/lang/Throwable" "stackTrace" "[Ljava/lang/StackTraceElement;")) ∈ lw_all := lw_in2 (List.mem_of_getElem? (i := 167) (by decide +kernel)) rfl
theorem q2_168 : ((Jvm.Cond.lays "java/lang/Throwable" "java/lang/Throwable" "stackTrace" "[Ljava/lang/StackTraceElement;")) ∈ lw_all := lw_in2 (List.mem_of_getElem? (i := 168) (by decide +kernel)) rfl
theorem q2_169 : ((Jvm.Cond.lays "java/lang/IllegalArgumentException" "java/lang/Throwable" "suppressedExceptions" "Ljava/util/List;")) ∈ lw_all := lw_in2 (List.mem_of_getElem? (i := 169) (by decide +kernel)) rfl
theorem q2_170 : ((Jvm.Cond.lays "java/lang/Throwable" "java/lang/Throwable" "suppressedExceptions" "Ljava/util/List;")) ∈ lw_all := lw_in2 (List.mem_of_getElem? (i := 170) (by decide +kernel)) rfl
theorem q2_171 : ((Jvm.Cond.lays "java/lang/IllegalArgumentException" "java/lang/Throwable" "detailMessage" "Ljava/lang/String;")) ∈ lw_all := lw_in2 (List.mem_of_getElem? (i := 171) (by decide +kernel)) rfl
theorem q2_172 : ((Jvm.Cond.lays "java/lang/Throwable" "java/lang/Throwable" "detailMessage" "Ljava/lang/String;")) ∈ lw_all := lw_in2 (List.mem_of_getElem? (i := 172) (by decide +kernel)) rfl
theorem q2_173 : ((Jvm.Cond.lays "java/lang/IllegalArgumentException" "java/lang/Throwable" "backtrace" "Ljava/lang/Object;")) ∈ lw_all := lw_in2 (List.mem_of_getElem? (i := 173) (by decide +kernel)) rfl
theorem q2_174 : ((Jvm.Cond.lays "java/lang/Throwable" "java/lang/Throwable" "backtrace" "Ljava/lang/Object;")) ∈ lw_all := lw_in2 (List.mem_of_getElem? (i := 174) (by decide +kernel)) rfl
theorem q2_175 : (Cond.fieldLink "java/lang/Throwable" 198 "java/lang/Throwable" "backtrace" "Ljava/lang/Object;") ∈ lw_all := lw_in2 (List.mem_of_getElem? (i := 175) (by decide +kernel)) rfl
theorem q2_176 : ((Jvm.Cond.superclass "java/lang/Throwable" "java/lang/Object")) ∈ lw_all := lw_in2 (List.mem_of_getElem? (i := 176) (by decide +kernel)) rfl
theorem q2_177 : (Cond.instanceMethod ⟨"java/lang/Throwable", "<init>", "()V"⟩) ∈ lw_all := lw_in2 (List.mem_of_getElem? (i := 177) (by decide +kernel)) rfl
theorem q2_178 : ((Jvm.Cond.code ({ cls := "java/lang/Throwable", name := "<init>", desc := "()V" } : Jvm.MethodName) prog_19_method_1_code (1 : Nat) (Option.none : Option Jvm.ClassFile.FieldType))) ∈ lw_all := lw_in2 (List.mem_of_getElem? (i := 178) (by decide +kernel)) rfl
theorem q2_179 : (Cond.methodLink "java/lang/Throwable" 1 ⟨"java/lang/Object", "<init>", "()V"⟩) ∈ lw_all := lw_in2 (List.mem_of_getElem? (i := 179) (by decide +kernel)) rfl
theorem q2_180 : (Cond.fieldLink "java/lang/Throwable" 13 "java/lang/Throwable" "UNASSIGNED_STACK" "[Ljava/lang/StackTraceElement;") ∈ lw_all := lw_in2 (List.mem_of_getElem? (i := 180) (by decide +kernel)) rfl
theorem q2_182 : (Cond.fieldLink "java/lang/Throwable" 20 "java/lang/Throwable" "SUPPRESSED_SENTINEL" "Ljava/util/List;") ∈ lw_all := lw_in2 (List.mem_of_getElem? (i := 182) (by decide +kernel)) rfl
theorem q2_184 : (Cond.methodLink "java/lang/Throwable" 27 ⟨"java/lang/Throwable", "fillInStackTrace", "()Ljava/lang/Throwable;"⟩) ∈ lw_all := lw_in2 (List.mem_of_getElem? (i := 184) (by decide +kernel)) rfl
theorem q2_185 : (Cond.instanceMethod ⟨"java/lang/Throwable", "fillInStackTrace", "()Ljava/lang/Throwable;"⟩) ∈ lw_all := lw_in2 (List.mem_of_getElem? (i := 185) (by decide +kernel)) rfl
theorem q2_186 : ((Jvm.Cond.sameMethod "java/lang/Throwable" "java/lang/Throwable" "fillInStackTrace" "()Ljava/lang/Throwable;")) ∈ lw_all := lw_in2 (List.mem_of_getElem? (i := 186) (by decide +kernel)) rfl
theorem q2_187 : (Cond.selects "java/lang/IllegalStateException" ⟨"java/lang/Throwable", "fillInStackTrace", "()Ljava/lang/Throwable;"⟩ ⟨"java/lang/Throwable", "fillInStackTrace", "()Ljava/lang/Throwable;"⟩) ∈ lw_all := lw_in2 (List.mem_of_getElem? (i := 187) (by decide +kernel)) rfl
theorem q2_188 : (Cond.selects "java/lang/IndexOutOfBoundsException" ⟨"java/lang/Throwable", "fillInStackTrace", "()Ljava/lang/Throwable;"⟩ ⟨"java/lang/Throwable", "fillInStackTrace", "()Ljava/lang/Throwable;"⟩) ∈ lw_all := lw_in2 (List.mem_of_getElem? (i := 188) (by decide +kernel)) rfl
theorem q2_189 : ((Jvm.Cond.codeSync ({ cls := "java/lang/Throwable", name := "fillInStackTrace", desc := "()Ljava/lang/Throwable;" } : Jvm.MethodName) prog_19_method_18_code (1 : Nat) (Option.some (Jvm.ClassFile.FieldType.object "java/lang/Throwable")))) ∈ lw_all := lw_in2 (List.mem_of_getElem? (i := 189) (by decide +kernel)) rfl
theorem q2_190 : (Cond.methodLink "java/lang/Throwable" 202 ⟨"java/lang/Throwable", "fillInStackTrace", "(I)Ljava/lang/Throwable;"⟩) ∈ lw_all := lw_in2 (List.mem_of_getElem? (i := 190) (by decide +kernel)) rfl
theorem q2_192 : (Cond.instanceMethod ⟨"java/lang/Throwable", "fillInStackTrace", "(I)Ljava/lang/Throwable;"⟩) ∈ lw_all := lw_in2 (List.mem_of_getElem? (i := 192) (by decide +kernel)) rfl
theorem q2_193 : (Cond.instantiable "java/lang/Throwable" 6) ∈ lw_all := lw_in2 (List.mem_of_getElem? (i := 193) (by decide +kernel)) rfl
theorem q2_194 : (Cond.native ⟨"java/lang/Throwable", "fillInStackTrace", "(I)Ljava/lang/Throwable;"⟩) ∈ lw_all := lw_in2 (List.mem_of_getElem? (i := 194) (by decide +kernel)) rfl
theorem q2_196 : (Cond.methodLink RX5 70 ⟨"java/lang/IllegalArgumentException", "<init>", "(Ljava/lang/String;)V"⟩) ∈ lw_all := lw_in2 (List.mem_of_getElem? (i := 196) (by decide +kernel)) rfl
theorem q2_197 : (Cond.instanceMethod ⟨"java/lang/IllegalArgumentException", "<init>", "(Ljava/lang/String;)V"⟩) ∈ lw_all := lw_in2 (List.mem_of_getElem? (i := 197) (by decide +kernel)) rfl
theorem q2_198 : ((Jvm.Cond.code ({ cls := "java/lang/IllegalArgumentException", name := "<init>", desc := "(Ljava/lang/String;)V" } : Jvm.MethodName) prog_12_method_2_code (2 : Nat) (Option.none : Option Jvm.ClassFile.FieldType))) ∈ lw_all := lw_in2 (List.mem_of_getElem? (i := 198) (by decide +kernel)) rfl
theorem q2_199 : (Cond.methodLink "java/lang/IllegalArgumentException" 7 ⟨"java/lang/RuntimeException", "<init>", "(Ljava/lang/String;)V"⟩) ∈ lw_all := lw_in2 (List.mem_of_getElem? (i := 199) (by decide +kernel)) rfl
theorem q2_200 : (Cond.instanceMethod ⟨"java/lang/RuntimeException", "<init>", "(Ljava/lang/String;)V"⟩) ∈ lw_all := lw_in2 (List.mem_of_getElem? (i := 200) (by decide +kernel)) rfl
theorem q2_201 : ((Jvm.Cond.code ({ cls := "java/lang/RuntimeException", name := "<init>", desc := "(Ljava/lang/String;)V" } : Jvm.MethodName) prog_17_method_2_code (2 : Nat) (Option.none : Option Jvm.ClassFile.FieldType))) ∈ lw_all := lw_in2 (List.mem_of_getElem? (i := 201) (by decide +kernel)) rfl
theorem q2_202 : (Cond.methodLink "java/lang/RuntimeException" 7 ⟨"java/lang/Exception", "<init>", "(Ljava/lang/String;)V"⟩) ∈ lw_all := lw_in2 (List.mem_of_getElem? (i := 202) (by decide +kernel)) rfl
theorem q2_203 : (Cond.instanceMethod ⟨"java/lang/Exception", "<init>", "(Ljava/lang/String;)V"⟩) ∈ lw_all := lw_in2 (List.mem_of_getElem? (i := 203) (by decide +kernel)) rfl
theorem q2_204 : ((Jvm.Cond.code ({ cls := "java/lang/Exception", name := "<init>", desc := "(Ljava/lang/String;)V" } : Jvm.MethodName) prog_10_method_2_code (2 : Nat) (Option.none : Option Jvm.ClassFile.FieldType))) ∈ lw_all := lw_in2 (List.mem_of_getElem? (i := 204) (by decide +kernel)) rfl
theorem q2_205 : (Cond.methodLink "java/lang/Exception" 7 ⟨"java/lang/Throwable", "<init>", "(Ljava/lang/String;)V"⟩) ∈ lw_all := lw_in2 (List.mem_of_getElem? (i := 205) (by decide +kernel)) rfl
theorem q2_206 : (Cond.instanceMethod ⟨"java/lang/Throwable", "<init>", "(Ljava/lang/String;)V"⟩) ∈ lw_all := lw_in2 (List.mem_of_getElem? (i := 206) (by decide +kernel)) rfl
theorem q2_207 : ((Jvm.Cond.code ({ cls := "java/lang/Throwable", name := "<init>", desc := "(Ljava/lang/String;)V" } : Jvm.MethodName) prog_19_method_2_code (2 : Nat) (Option.none : Option Jvm.ClassFile.FieldType))) ∈ lw_all := lw_in2 (List.mem_of_getElem? (i := 207) (by decide +kernel)) rfl
theorem q2_208 : (Cond.fieldLink "java/lang/Throwable" 198 "java/lang/Throwable" "backtrace" "Ljava/lang/Object;") ∈ lw_all := lw_in2 (List.mem_of_getElem? (i := 208) (by decide +kernel)) rfl
theorem q2_209 : (Cond.fieldLink "java/lang/Throwable" 31 "java/lang/Throwable" "detailMessage" "Ljava/lang/String;") ∈ lw_all := lw_in2 (List.mem_of_getElem? (i := 209) (by decide +kernel)) rfl
theorem q2_210 : (Cond.fieldLink "java/lang/Throwable" 7 "java/lang/Throwable" "cause" "Ljava/lang/Throwable;") ∈ lw_all := lw_in2 (List.mem_of_getElem? (i := 210) (by decide +kernel)) rfl
theorem q2_211 : (Cond.fieldLink "java/lang/Throwable" 17 "java/lang/Throwable" "stackTrace" "[Ljava/lang/StackTraceElement;") ∈ lw_all := lw_in2 (List.mem_of_getElem? (i := 211) (by decide +kernel)) rfl
theorem q2_212 : (Cond.fieldLink "java/lang/Throwable" 24 "java/lang/Throwable" "suppressedExceptions" "Ljava/util/List;") ∈ lw_all := lw_in2 (List.mem_of_getElem? (i := 212) (by decide +kernel)) rfl
theorem q2_213 : ((Jvm.Cond.soleField "java/lang/Throwable" "backtrace")) ∈ lw_all := lw_in2 (List.mem_of_getElem? (i := 213) (by decide +kernel)) rfl
theorem q2_214 : ((Jvm.Cond.soleField "java/lang/Throwable" "detailMessage")) ∈ lw_all := lw_in2 (List.mem_of_getElem? (i := 214) (by decide +kernel)) rfl
theorem q2_215 : ((Jvm.Cond.soleField "java/lang/Throwable" "cause")) ∈ lw_all := lw_in2 (List.mem_of_getElem? (i := 215) (by decide +kernel)) rfl
theorem q2_216 : ((Jvm.Cond.soleField "java/lang/Throwable" "stackTrace")) ∈ lw_all := lw_in2 (List.mem_of_getElem? (i := 216) (by decide +kernel)) rfl
theorem q2_217 : ((Jvm.Cond.lays "java/lang/IllegalArgumentException" "java/lang/Throwable" "depth" "I")) ∈ lw_all := lw_in2 (List.mem_of_getElem? (i := 217) (by decide +kernel)) rfl
theorem q2_218 : ((Jvm.Cond.soleField "java/lang/Throwable" "depth")) ∈ lw_all := lw_in2 (List.mem_of_getElem? (i := 218) (by decide +kernel)) rfl
theorem q2_219 : ((Jvm.Cond.soleField "java/lang/Throwable" "suppressedExceptions")) ∈ lw_all := lw_in2 (List.mem_of_getElem? (i := 219) (by decide +kernel)) rfl
theorem q2_220 : ((Jvm.Cond.superclass "java/lang/IllegalArgumentException" "java/lang/RuntimeException")) ∈ lw_all := lw_in2 (List.mem_of_getElem? (i := 220) (by decide +kernel)) rfl
theorem q2_221 : ((Jvm.Cond.arrayClass Jvm.ClassFile.FieldType.byte)) ∈ lw_all := lw_in2 (List.mem_of_getElem? (i := 221) (by decide +kernel)) rfl
theorem q2_222 : (Cond.methodLink RX5 263 yX5_mix) ∈ lw_all := lw_in2 (List.mem_of_getElem? (i := 222) (by decide +kernel)) rfl
theorem q2_223 : (Cond.static yX5_mix) ∈ lw_all := lw_in2 (List.mem_of_getElem? (i := 223) (by decide +kernel)) rfl
theorem q2_224 : (Cond.code yX5_mix cX5_mix 4 (some .long)) ∈ lw_all := lw_in2 (List.mem_of_getElem? (i := 224) (by decide +kernel)) rfl
theorem q2_225 : ((Jvm.Cond.constantLong "PairedTumblers" (327 : Nat) (31 : Int64))) ∈ lw_all := lw_in2 (List.mem_of_getElem? (i := 225) (by decide +kernel)) rfl
theorem q2_226 : (Cond.methodLink RX5 267 yX5_mixPositions) ∈ lw_all := lw_in2 (List.mem_of_getElem? (i := 226) (by decide +kernel)) rfl
theorem q2_228 : (Cond.instanceMethod yX5_mixPositions) ∈ lw_all := lw_in2 (List.mem_of_getElem? (i := 228) (by decide +kernel)) rfl
theorem q2_229 : (Cond.code yX5_mixPositions cX5_mixPositions 7 (some .long)) ∈ lw_all := lw_in2 (List.mem_of_getElem? (i := 229) (by decide +kernel)) rfl
theorem q2_230 : (Cond.methodLink RX5 329 yX5_at) ∈ lw_all := lw_in2 (List.mem_of_getElem? (i := 230) (by decide +kernel)) rfl
theorem q2_231 : (Cond.instanceMethod yX5_at) ∈ lw_all := lw_in2 (List.mem_of_getElem? (i := 231) (by decide +kernel)) rfl
theorem q2_232 : (Cond.selects RX5 yX5_at yX5_at) ∈ lw_all := lw_in2 (List.mem_of_getElem? (i := 232) (by decide +kernel)) rfl
theorem q2_233 : (Cond.code yX5_at cX5_at 3 (some .int)) ∈ lw_all := lw_in2 (List.mem_of_getElem? (i := 233) (by decide +kernel)) rfl
theorem q2_234 : (Cond.methodLink RX5 137 yX5_requirePosition) ∈ lw_all := lw_in2 (List.mem_of_getElem? (i := 234) (by decide +kernel)) rfl
theorem q2_235 : (Cond.static yX5_requirePosition) ∈ lw_all := lw_in2 (List.mem_of_getElem? (i := 235) (by decide +kernel)) rfl
theorem q2_236 : (Cond.code yX5_requirePosition cX5_requirePosition 1 none) ∈ lw_all := lw_in2 (List.mem_of_getElem? (i := 236) (by decide +kernel)) rfl
theorem q2_237 : (Cond.classLink RX5 302 "java/lang/IndexOutOfBoundsException") ∈ lw_all := lw_in2 (List.mem_of_getElem? (i := 237) (by decide +kernel)) rfl
theorem q2_238 : (Cond.instantiable "java/lang/IndexOutOfBoundsException" 6) ∈ lw_all := lw_in2 (List.mem_of_getElem? (i := 238) (by decide +kernel)) rfl
theorem qn2_239 : ((Jvm.Cond.castable "java/lang/IndexOutOfBoundsException" "java/lang/IndexOutOfBoundsException")) ∈ lw_nw := lw_nin2 (List.mem_of_getElem? (i := 239) (by decide +kernel)) rfl
theorem q3_0 : (Cond.selects "java/lang/IndexOutOfBoundsException" ⟨"java/lang/Throwable", "fillInStackTrace", "(I)Ljava/lang/Throwable;"⟩ ⟨"java/lang/Throwable", "fillInStackTrace", "(I)Ljava/lang/Throwable;"⟩) ∈ lw_all := lw_in3 (List.mem_of_getElem? (i := 0) (by decide +kernel)) rfl
theorem q3_1 : ((Jvm.Cond.lays "java/lang/IndexOutOfBoundsException" "java/lang/Throwable" "cause" "Ljava/lang/Throwable;")) ∈ lw_all := lw_in3 (List.mem_of_getElem? (i := 1) (by decide +kernel)) rfl
theorem q3_2 : ((Jvm.Cond.lays "java/lang/IndexOutOfBoundsException" "java/lang/Throwable" "stackTrace" "[Ljava/lang/StackTraceElement;")) ∈ lw_all := lw_in3 (List.mem_of_getElem? (i := 2) (by decide +kernel)) rfl
theorem q3_3 : ((Jvm.Cond.lays "java/lang/IndexOutOfBoundsException" "java/lang/Throwable" "suppressedExceptions" "Ljava/util/List;")) ∈ lw_all := lw_in3 (List.mem_of_getElem? (i := 3) (by decide +kernel)) rfl
theorem q3_4 : ((Jvm.Cond.lays "java/lang/IndexOutOfBoundsException" "java/lang/Throwable" "detailMessage" "Ljava/lang/String;")) ∈ lw_all := lw_in3 (List.mem_of_getElem? (i := 4) (by decide +kernel)) rfl
theorem q3_5 : ((Jvm.Cond.lays "java/lang/IndexOutOfBoundsException" "java/lang/Throwable" "backtrace" "Ljava/lang/Object;")) ∈ lw_all := lw_in3 (List.mem_of_getElem? (i := 5) (by decide +kernel)) rfl
theorem q3_7 : (Cond.methodLink RX5 306 ⟨"java/lang/IndexOutOfBoundsException", "<init>", "(Ljava/lang/String;)V"⟩) ∈ lw_all := lw_in3 (List.mem_of_getElem? (i := 7) (by decide +kernel)) rfl
theorem q3_8 : (Cond.instanceMethod ⟨"java/lang/IndexOutOfBoundsException", "<init>", "(Ljava/lang/String;)V"⟩) ∈ lw_all := lw_in3 (List.mem_of_getElem? (i := 8) (by decide +kernel)) rfl
theorem q3_9 : ((Jvm.Cond.code ({ cls := "java/lang/IndexOutOfBoundsException", name := "<init>", desc := "(Ljava/lang/String;)V" } : Jvm.MethodName) prog_14_method_2_code (2 : Nat) (Option.none : Option Jvm.ClassFile.FieldType))) ∈ lw_all := lw_in3 (List.mem_of_getElem? (i := 9) (by decide +kernel)) rfl
theorem q3_10 : (Cond.methodLink "java/lang/IndexOutOfBoundsException" 7 ⟨"java/lang/RuntimeException", "<init>", "(Ljava/lang/String;)V"⟩) ∈ lw_all := lw_in3 (List.mem_of_getElem? (i := 10) (by decide +kernel)) rfl
theorem q3_11 : ((Jvm.Cond.lays "java/lang/IndexOutOfBoundsException" "java/lang/Throwable" "depth" "I")) ∈ lw_all := lw_in3 (List.mem_of_getElem? (i := 11) (by decide +kernel)) rfl
theorem q3_12 : ((Jvm.Cond.superclass "java/lang/IndexOutOfBoundsException" "java/lang/RuntimeException")) ∈ lw_all := lw_in3 (List.mem_of_getElem? (i := 12) (by decide +kernel)) rfl
theorem q3_13 : (Cond.methodLink RX5 177 yX0_discAt) ∈ lw_all := lw_in3 (List.mem_of_getElem? (i := 13) (by decide +kernel)) rfl
theorem q3_14 : (Cond.instanceMethod yX0_discAt) ∈ lw_all := lw_in3 (List.mem_of_getElem? (i := 14) (by decide +kernel)) rfl
theorem q3_15 : (Cond.selects RX0 yX0_discAt yX0_discAt) ∈ lw_all := lw_in3 (List.mem_of_getElem? (i := 15) (by decide +kernel)) rfl
theorem q3_16 : (Cond.code yX0_discAt cX0_discAt 2 (some .int)) ∈ lw_all := lw_in3 (List.mem_of_getElem? (i := 16) (by decide +kernel)) rfl
theorem q3_17 : (Cond.methodLink RX5 180 yX0_notchAt) ∈ lw_all := lw_in3 (List.mem_of_getElem? (i := 17) (by decide +kernel)) rfl
theorem q3_18 : (Cond.instanceMethod yX0_notchAt) ∈ lw_all := lw_in3 (List.mem_of_getElem? (i := 18) (by decide +kernel)) rfl
theorem q3_19 : (Cond.selects RX0 yX0_notchAt yX0_notchAt) ∈ lw_all := lw_in3 (List.mem_of_getElem? (i := 19) (by decide +kernel)) rfl
theorem q3_20 : (Cond.code yX0_notchAt cX0_notchAt 2 (some .int)) ∈ lw_all := lw_in3 (List.mem_of_getElem? (i := 20) (by decide +kernel)) rfl
theorem q3_21 : (Cond.methodLink RX5 183 yX0_agreesAt) ∈ lw_all := lw_in3 (List.mem_of_getElem? (i := 21) (by decide +kernel)) rfl
theorem q3_22 : (Cond.instanceMethod yX0_agreesAt) ∈ lw_all := lw_in3 (List.mem_of_getElem? (i := 22) (by decide +kernel)) rfl
theorem q3_23 : (Cond.selects RX0 yX0_agreesAt yX0_agreesAt) ∈ lw_all := lw_in3 (List.mem_of_getElem? (i := 23) (by decide +kernel)) rfl
theorem q3_24 : (Cond.code yX0_agreesAt cX0_agreesAt 3 (some .boolean)) ∈ lw_all := lw_in3 (List.mem_of_getElem? (i := 24) (by decide +kernel)) rfl
theorem q3_25 : (Cond.methodLink RX0 18 yX0_discAt) ∈ lw_all := lw_in3 (List.mem_of_getElem? (i := 25) (by decide +kernel)) rfl
theorem q3_26 : (Cond.methodLink RX0 22 yX0_notchAt) ∈ lw_all := lw_in3 (List.mem_of_getElem? (i := 26) (by decide +kernel)) rfl
theorem q3_27 : (Cond.methodLink RX5 187 yX1_keysAt) ∈ lw_all := lw_in3 (List.mem_of_getElem? (i := 27) (by decide +kernel)) rfl
theorem q3_28 : (Cond.instanceMethod yX1_keysAt) ∈ lw_all := lw_in3 (List.mem_of_getElem? (i := 28) (by decide +kernel)) rfl
theorem q3_29 : (Cond.selects RX1 yX1_keysAt yX1_keysAt) ∈ lw_all := lw_in3 (List.mem_of_getElem? (i := 29) (by decide +kernel)) rfl
theorem q3_30 : (Cond.code yX1_keysAt cX1_keysAt 4 (some .int)) ∈ lw_all := lw_in3 (List.mem_of_getElem? (i := 30) (by decide +kernel)) rfl
theorem q3_32 : (Cond.methodLink RX5 271 yX5_mixKeys) ∈ lw_all := lw_in3 (List.mem_of_getElem? (i := 32) (by decide +kernel)) rfl
theorem q3_34 : (Cond.instanceMethod yX5_mixKeys) ∈ lw_all := lw_in3 (List.mem_of_getElem? (i := 34) (by decide +kernel)) rfl
theorem q3_35 : (Cond.code yX5_mixKeys cX5_mixKeys 7 (some .long)) ∈ lw_all := lw_in3 (List.mem_of_getElem? (i := 35) (by decide +kernel)) rfl
theorem q3_36 : (Cond.methodLink RX5 332 yX5_key) ∈ lw_all := lw_in3 (List.mem_of_getElem? (i := 36) (by decide +kernel)) rfl
theorem q3_37 : (Cond.instanceMethod yX5_key) ∈ lw_all := lw_in3 (List.mem_of_getElem? (i := 37) (by decide +kernel)) rfl
theorem q3_38 : (Cond.selects RX5 yX5_key yX5_key) ∈ lw_all := lw_in3 (List.mem_of_getElem? (i := 38) (by decide +kernel)) rfl
theorem q3_39 : (Cond.code yX5_key cX5_key 3 (some .int)) ∈ lw_all := lw_in3 (List.mem_of_getElem? (i := 39) (by decide +kernel)) rfl
theorem q3_40 : (Cond.methodLink RX5 116 yX5_requireKey) ∈ lw_all := lw_in3 (List.mem_of_getElem? (i := 40) (by decide +kernel)) rfl
theorem q3_41 : (Cond.static yX5_requireKey) ∈ lw_all := lw_in3 (List.mem_of_getElem? (i := 41) (by decide +kernel)) rfl
theorem q3_42 : (Cond.code yX5_requireKey cX5_requireKey 1 none) ∈ lw_all := lw_in3 (List.mem_of_getElem? (i := 42) (by decide +kernel)) rfl
theorem q3_44 : (Cond.methodLink RX5 128 yX1_maskOf) ∈ lw_all := lw_in3 (List.mem_of_getElem? (i := 44) (by decide +kernel)) rfl
theorem q3_45 : (Cond.methodLink RX5 192 yX1_strengthOf) ∈ lw_all := lw_in3 (List.mem_of_getElem? (i := 45) (by decide +kernel)) rfl
theorem q3_46 : (Cond.methodLink RX5 195 yX5_showKey) ∈ lw_all := lw_in3 (List.mem_of_getElem? (i := 46) (by decide +kernel)) rfl
theorem q3_48 : (Cond.instanceMethod yX5_showKey) ∈ lw_all := lw_in3 (List.mem_of_getElem? (i := 48) (by decide +kernel)) rfl
theorem q3_49 : (Cond.code yX5_showKey cX5_showKey 2 none) ∈ lw_all := lw_in3 (List.mem_of_getElem? (i := 49) (by decide +kernel)) rfl
theorem q3_50 : (Cond.methodLink RX5 198 yX5_periodByDoing) ∈ lw_all := lw_in3 (List.mem_of_getElem? (i := 50) (by decide +kernel)) rfl
theorem q3_52 : (Cond.instanceMethod yX5_periodByDoing) ∈ lw_all := lw_in3 (List.mem_of_getElem? (i := 52) (by decide +kernel)) rfl
theorem q3_53 : (Cond.code yX5_periodByDoing cX5_periodByDoing 2 (some .int)) ∈ lw_all := lw_in3 (List.mem_of_getElem? (i := 53) (by decide +kernel)) rfl
theorem q3_54 : ((Jvm.Cond.constant "PairedTumblers" (323 : Nat) (1000000 : Int32))) ∈ lw_all := lw_in3 (List.mem_of_getElem? (i := 54) (by decide +kernel)) rfl
theorem q3_55 : (Cond.methodLink RX5 324 yX0_putAhead) ∈ lw_all := lw_in3 (List.mem_of_getElem? (i := 55) (by decide +kernel)) rfl
theorem q3_56 : (Cond.instanceMethod yX0_putAhead) ∈ lw_all := lw_in3 (List.mem_of_getElem? (i := 56) (by decide +kernel)) rfl
theorem q3_57 : (Cond.selects RX0 yX0_putAhead yX0_putAhead) ∈ lw_all := lw_in3 (List.mem_of_getElem? (i := 57) (by decide +kernel)) rfl
theorem q3_58 : (Cond.code yX0_putAhead cX0_putAhead 4 none) ∈ lw_all := lw_in3 (List.mem_of_getElem? (i := 58) (by decide +kernel)) rfl
theorem q3_59 : (Cond.methodLink RX5 201 yX0_periodByRounds) ∈ lw_all := lw_in3 (List.mem_of_getElem? (i := 59) (by decide +kernel)) rfl
theorem q3_60 : (Cond.instanceMethod yX0_periodByRounds) ∈ lw_all := lw_in3 (List.mem_of_getElem? (i := 60) (by decide +kernel)) rfl
theorem q3_61 : (Cond.selects RX0 yX0_periodByRounds yX0_periodByRounds) ∈ lw_all := lw_in3 (List.mem_of_getElem? (i := 61) (by decide +kernel)) rfl
theorem q3_62 : (Cond.code yX0_periodByRounds cX0_periodByRounds 7 (some .int)) ∈ lw_all := lw_in3 (List.mem_of_getElem? (i := 62) (by decide +kernel)) rfl
theorem q3_63 : (Cond.methodLink RX0 25 yX0_placeOf) ∈ lw_all := lw_in3 (List.mem_of_getElem? (i := 63) (by decide +kernel)) rfl
theorem q3_65 : (Cond.instanceMethod yX0_placeOf) ∈ lw_all := lw_in3 (List.mem_of_getElem? (i := 65) (by decide +kernel)) rfl
theorem q3_66 : (Cond.code yX0_placeOf cX0_placeOf 4 (some .int)) ∈ lw_all := lw_in3 (List.mem_of_getElem? (i := 66) (by decide +kernel)) rfl
theorem q3_67 : (Cond.methodLink RX0 28 yX0_leastMultiple) ∈ lw_all := lw_in3 (List.mem_of_getElem? (i := 67) (by decide +kernel)) rfl
theorem q3_68 : (Cond.static yX0_leastMultiple) ∈ lw_all := lw_in3 (List.mem_of_getElem? (i := 68) (by decide +kernel)) rfl
theorem q3_69 : (Cond.code yX0_leastMultiple cX0_leastMultiple 4 (some .int)) ∈ lw_all := lw_in3 (List.mem_of_getElem? (i := 69) (by decide +kernel)) rfl
theorem q3_70 : (Cond.methodLink RX5 88 yX3_allows) ∈ lw_all := lw_in3 (List.mem_of_getElem? (i := 70) (by decide +kernel)) rfl
theorem q3_71 : (Cond.methodLink RX5 204 yX3_usesOf) ∈ lw_all := lw_in3 (List.mem_of_getElem? (i := 71) (by decide +kernel)) rfl
theorem q3_72 : (Cond.instanceMethod yX3_usesOf) ∈ lw_all := lw_in3 (List.mem_of_getElem? (i := 72) (by decide +kernel)) rfl
theorem q3_73 : (Cond.selects RX3 yX3_usesOf yX3_usesOf) ∈ lw_all := lw_in3 (List.mem_of_getElem? (i := 73) (by decide +kernel)) rfl
theorem q3_74 : (Cond.code yX3_usesOf cX3_usesOf 2 (some .int)) ∈ lw_all := lw_in3 (List.mem_of_getElem? (i := 74) (by decide +kernel)) rfl
theorem q3_76 : (Cond.methodLink RX5 335 yX5_ifTurned) ∈ lw_all := lw_in3 (List.mem_of_getElem? (i := 76) (by decide +kernel)) rfl
theorem q3_77 : (Cond.instanceMethod yX5_ifTurned) ∈ lw_all := lw_in3 (List.mem_of_getElem? (i := 77) (by decide +kernel)) rfl
theorem q3_78 : (Cond.selects RX5 yX5_ifTurned yX5_ifTurned) ∈ lw_all := lw_in3 (List.mem_of_getElem? (i := 78) (by decide +kernel)) rfl
theorem q3_79 : (Cond.code yX5_ifTurned cX5_ifTurned 3 (some .int)) ∈ lw_all := lw_in3 (List.mem_of_getElem? (i := 79) (by decide +kernel)) rfl
theorem q3_81 : (Cond.methodLink RX5 274 yX5_mixPairs) ∈ lw_all := lw_in3 (List.mem_of_getElem? (i := 81) (by decide +kernel)) rfl
theorem q3_83 : (Cond.instanceMethod yX5_mixPairs) ∈ lw_all := lw_in3 (List.mem_of_getElem? (i := 83) (by decide +kernel)) rfl
theorem q3_84 : (Cond.code yX5_mixPairs cX5_mixPairs 8 (some .long)) ∈ lw_all := lw_in3 (List.mem_of_getElem? (i := 84) (by decide +kernel)) rfl
theorem q3_85 : (Cond.methodLink RX5 338 yX5_pair) ∈ lw_all := lw_in3 (List.mem_of_getElem? (i := 85) (by decide +kernel)) rfl
theorem q3_86 : (Cond.instanceMethod yX5_pair) ∈ lw_all := lw_in3 (List.mem_of_getElem? (i := 86) (by decide +kernel)) rfl
theorem q3_87 : (Cond.selects RX5 yX5_pair yX5_pair) ∈ lw_all := lw_in3 (List.mem_of_getElem? (i := 87) (by decide +kernel)) rfl
theorem q3_88 : (Cond.code yX5_pair cX5_pair 4 (some .int)) ∈ lw_all := lw_in3 (List.mem_of_getElem? (i := 88) (by decide +kernel)) rfl
theorem q3_89 : (Cond.methodLink RX5 277 yX5_openIn) ∈ lw_all := lw_in3 (List.mem_of_getElem? (i := 89) (by decide +kernel)) rfl
theorem q3_90 : (Cond.instanceMethod yX5_openIn) ∈ lw_all := lw_in3 (List.mem_of_getElem? (i := 90) (by decide +kernel)) rfl
theorem q3_91 : (Cond.selects RX5 yX5_openIn yX5_openIn) ∈ lw_all := lw_in3 (List.mem_of_getElem? (i := 91) (by decide +kernel)) rfl
theorem q3_92 : (Cond.code yX5_openIn cX5_openIn 2 (some .int)) ∈ lw_all := lw_in3 (List.mem_of_getElem? (i := 92) (by decide +kernel)) rfl
theorem q3_94 : (Cond.methodLink RX5 237 yX2_search) ∈ lw_all := lw_in3 (List.mem_of_getElem? (i := 94) (by decide +kernel)) rfl
theorem q3_95 : (Cond.instanceMethod yX2_search) ∈ lw_all := lw_in3 (List.mem_of_getElem? (i := 95) (by decide +kernel)) rfl
theorem q3_96 : (Cond.selects RX2 yX2_search yX2_search) ∈ lw_all := lw_in3 (List.mem_of_getElem? (i := 96) (by decide +kernel)) rfl
theorem q3_97 : (Cond.code yX2_search cX2_search 3 none) ∈ lw_all := lw_in3 (List.mem_of_getElem? (i := 97) (by decide +kernel)) rfl
theorem q3_98 : (Cond.methodLink RX2 44 yX3_opens) ∈ lw_all := lw_in3 (List.mem_of_getElem? (i := 98) (by decide +kernel)) rfl
theorem q3_99 : (Cond.methodLink RX2 48 yX2_listNear) ∈ lw_all := lw_in3 (List.mem_of_getElem? (i := 99) (by decide +kernel)) rfl
theorem q3_101 : (Cond.instanceMethod yX2_listNear) ∈ lw_all := lw_in3 (List.mem_of_getElem? (i := 101) (by decide +kernel)) rfl
theorem q3_102 : (Cond.code yX2_listNear cX2_listNear 3 none) ∈ lw_all := lw_in3 (List.mem_of_getElem? (i := 102) (by decide +kernel)) rfl
theorem q3_103 : (Cond.methodLink RX2 88 yX2_list) ∈ lw_all := lw_in3 (List.mem_of_getElem? (i := 103) (by decide +kernel)) rfl
theorem q3_105 : (Cond.instanceMethod yX2_list) ∈ lw_all := lw_in3 (List.mem_of_getElem? (i := 105) (by decide +kernel)) rfl
theorem q3_106 : (Cond.code yX2_list cX2_list 3 none) ∈ lw_all := lw_in3 (List.mem_of_getElem? (i := 106) (by decide +kernel)) rfl
theorem q3_107 : (Cond.methodLink RX2 94 yX0_fingerprint) ∈ lw_all := lw_in3 (List.mem_of_getElem? (i := 107) (by decide +kernel)) rfl
theorem q3_108 : (Cond.instanceMethod yX0_fingerprint) ∈ lw_all := lw_in3 (List.mem_of_getElem? (i := 108) (by decide +kernel)) rfl
theorem q3_109 : (Cond.selects RX0 yX0_fingerprint yX0_fingerprint) ∈ lw_all := lw_in3 (List.mem_of_getElem? (i := 109) (by decide +kernel)) rfl
theorem q3_110 : (Cond.code yX0_fingerprint cX0_fingerprint 3 (some .int)) ∈ lw_all := lw_in3 (List.mem_of_getElem? (i := 110) (by decide +kernel)) rfl
theorem q3_111 : (Cond.methodLink RX2 52 yX3_allows) ∈ lw_all := lw_in3 (List.mem_of_getElem? (i := 111) (by decide +kernel)) rfl
theorem q3_112 : (Cond.methodLink RX2 63 yX0_copyFrom) ∈ lw_all := lw_in3 (List.mem_of_getElem? (i := 112) (by decide +kernel)) rfl
theorem q3_113 : (Cond.methodLink RX2 71 yX1_move) ∈ lw_all := lw_in3 (List.mem_of_getElem? (i := 113) (by decide +kernel)) rfl
theorem q3_114 : (Cond.methodLink RX2 91 yX2_listBehindOne) ∈ lw_all := lw_in3 (List.mem_of_getElem? (i := 114) (by decide +kernel)) rfl
theorem q3_116 : (Cond.instanceMethod yX2_listBehindOne) ∈ lw_all := lw_in3 (List.mem_of_getElem? (i := 116) (by decide +kernel)) rfl
theorem q3_117 : (Cond.code yX2_listBehindOne cX2_listBehindOne 3 none) ∈ lw_all := lw_in3 (List.mem_of_getElem? (i := 117) (by decide +kernel)) rfl
theorem q3_118 : (Cond.methodLink RX2 56 yX2_tryFirst) ∈ lw_all := lw_in3 (List.mem_of_getElem? (i := 118) (by decide +kernel)) rfl
theorem q3_120 : (Cond.instanceMethod yX2_tryFirst) ∈ lw_all := lw_in3 (List.mem_of_getElem? (i := 120) (by decide +kernel)) rfl
theorem q3_121 : (Cond.code yX2_tryFirst cX2_tryFirst 4 none) ∈ lw_all := lw_in3 (List.mem_of_getElem? (i := 121) (by decide +kernel)) rfl
theorem q3_122 : (Cond.methodLink RX2 77 yX2_listedTurns) ∈ lw_all := lw_in3 (List.mem_of_getElem? (i := 122) (by decide +kernel)) rfl
theorem q3_124 : (Cond.instanceMethod yX2_listedTurns) ∈ lw_all := lw_in3 (List.mem_of_getElem? (i := 124) (by decide +kernel)) rfl
theorem q3_125 : (Cond.code yX2_listedTurns cX2_listedTurns 4 (some .int)) ∈ lw_all := lw_in3 (List.mem_of_getElem? (i := 125) (by decide +kernel)) rfl
theorem q3_126 : (Cond.methodLink RX2 81 yX2_meetsList) ∈ lw_all := lw_in3 (List.mem_of_getElem? (i := 126) (by decide +kernel)) rfl
theorem q3_128 : (Cond.instanceMethod yX2_meetsList) ∈ lw_all := lw_in3 (List.mem_of_getElem? (i := 128) (by decide +kernel)) rfl
theorem q3_129 : (Cond.code yX2_meetsList cX2_meetsList 3 (some .boolean)) ∈ lw_all := lw_in3 (List.mem_of_getElem? (i := 129) (by decide +kernel)) rfl
theorem q3_130 : (Cond.methodLink RX5 280 yX5_closest) ∈ lw_all := lw_in3 (List.mem_of_getElem? (i := 130) (by decide +kernel)) rfl
theorem q3_131 : (Cond.methodLink RX5 283 yX5_openShare) ∈ lw_all := lw_in3 (List.mem_of_getElem? (i := 131) (by decide +kernel)) rfl
theorem q3_132 : (Cond.methodLink RX5 287 yX5_doubleBits) ∈ lw_all := lw_in3 (List.mem_of_getElem? (i := 132) (by decide +kernel)) rfl
theorem q3_133 : (Cond.static yX5_doubleBits) ∈ lw_all := lw_in3 (List.mem_of_getElem? (i := 133) (by decide +kernel)) rfl
theorem q3_134 : (Cond.code yX5_doubleBits cX5_doubleBits 7 (some .long)) ∈ lw_all := lw_in3 (List.mem_of_getElem? (i := 134) (by decide +kernel)) rfl
theorem q3_135 : ((Jvm.Cond.constantLong "PairedTumblers" (346 : Nat) (1023 : Int64))) ∈ lw_all := lw_in3 (List.mem_of_getElem? (i := 135) (by decide +kernel)) rfl
theorem q3_136 : ((Jvm.Cond.constantDouble "PairedTumblers" (348 : Nat) (4611686018427387904 : UInt64))) ∈ lw_all := lw_in3 (List.mem_of_getElem? (i := 136) (by decide +kernel)) rfl
theorem q3_137 : ((Jvm.Cond.constantDouble "PairedTumblers" (350 : Nat) (4841369599423283200 : UInt64))) ∈ lw_all := lw_in3 (List.mem_of_getElem? (i := 137) (by decide +kernel)) rfl
theorem q3_138 : (Cond.methodLink RX5 291 yX5_meanNotch) ∈ lw_all := lw_in3 (List.mem_of_getElem? (i := 138) (by decide +kernel)) rfl
theorem q3_139 : (Cond.methodLink RX5 295 yX5_floatBits) ∈ lw_all := lw_in3 (List.mem_of_getElem? (i := 139) (by decide +kernel)) rfl
theorem q3_140 : (Cond.static yX5_floatBits) ∈ lw_all := lw_in3 (List.mem_of_getElem? (i := 140) (by decide +kernel)) rfl
theorem q3_141 : (Cond.code yX5_floatBits cX5_floatBits 4 (some .int)) ∈ lw_all := lw_in3 (List.mem_of_getElem? (i := 141) (by decide +kernel)) rfl
theorem q3_142 : ((Jvm.Cond.constantFloat "PairedTumblers" (352 : Nat) (1258291200 : UInt32))) ∈ lw_all := lw_in3 (List.mem_of_getElem? (i := 142) (by decide +kernel)) rfl
theorem q3_143 : (Cond.methodLink RX5 299 yX5_mixBuffer) ∈ lw_all := lw_in3 (List.mem_of_getElem? (i := 143) (by decide +kernel)) rfl
theorem q3_145 : (Cond.instanceMethod yX5_mixBuffer) ∈ lw_all := lw_in3 (List.mem_of_getElem? (i := 145) (by decide +kernel)) rfl
theorem q3_146 : (Cond.code yX5_mixBuffer cX5_mixBuffer 6 (some .long)) ∈ lw_all := lw_in3 (List.mem_of_getElem? (i := 146) (by decide +kernel)) rfl
theorem q3_147 : (Cond.methodLink RX5 342 yX4_signAt) ∈ lw_all := lw_in3 (List.mem_of_getElem? (i := 147) (by decide +kernel)) rfl
theorem q3_148 : (Cond.methodLink RL 68 yL_turn) ∈ lw_all := lw_in3 (List.mem_of_getElem? (i := 148) (by decide +kernel)) rfl
theorem q3_149 : (Cond.static yL_turn) ∈ lw_all := lw_in3 (List.mem_of_getElem? (i := 149) (by decide +kernel)) rfl
theorem q3_150 : ((Jvm.Cond.codeWith ({ cls := "PairedTumblersLaw", name := "turn", desc := "(LPairedTumblers;I[J)I" } : Jvm.MethodName) method_3_code (4 : Nat) (Option.some Jvm.ClassFile.FieldType.int) [((0 : Nat), (9 : Nat), (12 : Nat), (13 : Nat)), ((0 : Nat), (9 : Nat), (15 : Nat), (15 : Nat))])) ∈ lw_all := lw_in3 (List.mem_of_getElem? (i := 150) (by decide +kernel)) rfl
theorem q3_151 : (Cond.classLink RL 13 "java/lang/IndexOutOfBoundsException") ∈ lw_all := lw_in3 (List.mem_of_getElem? (i := 151) (by decide +kernel)) rfl
theorem q3_152 : (Cond.classLink RL 15 "java/lang/IllegalStateException") ∈ lw_all := lw_in3 (List.mem_of_getElem? (i := 152) (by decide +kernel)) rfl
theorem q3_153 : (Cond.methodLink RL 7 yX5_turn) ∈ lw_all := lw_in3 (List.mem_of_getElem? (i := 153) (by decide +kernel)) rfl
theorem q3_154 : (Cond.instanceMethod yX5_turn) ∈ lw_all := lw_in3 (List.mem_of_getElem? (i := 154) (by decide +kernel)) rfl
theorem q3_155 : (Cond.selects RX5 yX5_turn yX5_turn) ∈ lw_all := lw_in3 (List.mem_of_getElem? (i := 155) (by decide +kernel)) rfl
theorem q3_156 : (Cond.code yX5_turn cX5_turn 2 (some .int)) ∈ lw_all := lw_in3 (List.mem_of_getElem? (i := 156) (by decide +kernel)) rfl
theorem q3_157 : (Cond.methodLink RX5 55 yX5_turnOnce) ∈ lw_all := lw_in3 (List.mem_of_getElem? (i := 157) (by decide +kernel)) rfl
theorem q3_159 : (Cond.instanceMethod yX5_turnOnce) ∈ lw_all := lw_in3 (List.mem_of_getElem? (i := 159) (by decide +kernel)) rfl
theorem q3_160 : (Cond.code yX5_turnOnce cX5_turnOnce 4 (some .int)) ∈ lw_all := lw_in3 (List.mem_of_getElem? (i := 160) (by decide +kernel)) rfl
theorem q3_161 : (Cond.classLink RX5 76 "java/lang/IllegalStateException") ∈ lw_all := lw_in3 (List.mem_of_getElem? (i := 161) (by decide +kernel)) rfl
theorem q3_162 : (Cond.instantiable "java/lang/IllegalStateException" 6) ∈ lw_all := lw_in3 (List.mem_of_getElem? (i := 162) (by decide +kernel)) rfl
theorem qn3_163 : ((Jvm.Cond.castable "java/lang/IllegalStateException" "java/lang/IllegalStateException")) ∈ lw_nw := lw_nin3 (List.mem_of_getElem? (i := 163) (by decide +kernel)) rfl
theorem q3_164 : (Cond.selects "java/lang/IllegalStateException" ⟨"java/lang/Throwable", "fillInStackTrace", "(I)Ljava/lang/Throwable;"⟩ ⟨"java/lang/Throwable", "fillInStackTrace", "(I)Ljava/lang/Throwable;"⟩) ∈ lw_all := lw_in3 (List.mem_of_getElem? (i := 164) (by decide +kernel)) rfl
theorem q3_165 : ((Jvm.Cond.lays "java/lang/IllegalStateException" "java/lang/Throwable" "cause" "Ljava/lang/Throwable;")) ∈ lw_all := lw_in3 (List.mem_of_getElem? (i := 165) (by decide +kernel)) rfl
theorem q3_166 : ((Jvm.Cond.lays "java/lang/IllegalStateException" "java/lang/Throwable" "stackTrace" "[Ljava/lang/StackTraceElement;")) ∈ lw_all := lw_in3 (List.mem_of_getElem? (i := 166) (by decide +kernel)) rfl
theorem q3_167 : ((Jvm.Cond.lays "java/lang/IllegalStateException" "java/lang/Throwable" "suppressedExceptions" "Ljava/util/List;")) ∈ lw_all := lw_in3 (List.mem_of_getElem? (i := 167) (by decide +kernel)) rfl
theorem q3_168 : ((Jvm.Cond.lays "java/lang/IllegalStateException" "java/lang/Throwable" "detailMessage" "Ljava/lang/String;")) ∈ lw_all := lw_in3 (List.mem_of_getElem? (i := 168) (by decide +kernel)) rfl
theorem q3_169 : ((Jvm.Cond.lays "java/lang/IllegalStateException" "java/lang/Throwable" "backtrace" "Ljava/lang/Object;")) ∈ lw_all := lw_in3 (List.mem_of_getElem? (i := 169) (by decide +kernel)) rfl
theorem q3_171 : (Cond.methodLink RX5 80 ⟨"java/lang/IllegalStateException", "<init>", "(Ljava/lang/String;)V"⟩) ∈ lw_all := lw_in3 (List.mem_of_getElem? (i := 171) (by decide +kernel)) rfl
theorem q3_172 : (Cond.instanceMethod ⟨"java/lang/IllegalStateException", "<init>", "(Ljava/lang/String;)V"⟩) ∈ lw_all := lw_in3 (List.mem_of_getElem? (i := 172) (by decide +kernel)) rfl
theorem q3_173 : ((Jvm.Cond.code ({ cls := "java/lang/IllegalStateException", name := "<init>", desc := "(Ljava/lang/String;)V" } : Jvm.MethodName) prog_13_method_2_code (2 : Nat) (Option.none : Option Jvm.ClassFile.FieldType))) ∈ lw_all := lw_in3 (List.mem_of_getElem? (i := 173) (by decide +kernel)) rfl
theorem q3_174 : (Cond.methodLink "java/lang/IllegalStateException" 7 ⟨"java/lang/RuntimeException", "<init>", "(Ljava/lang/String;)V"⟩) ∈ lw_all := lw_in3 (List.mem_of_getElem? (i := 174) (by decide +kernel)) rfl
theorem q3_175 : ((Jvm.Cond.lays "java/lang/IllegalStateException" "java/lang/Throwable" "depth" "I")) ∈ lw_all := lw_in3 (List.mem_of_getElem? (i := 175) (by decide +kernel)) rfl
theorem q3_176 : ((Jvm.Cond.superclass "java/lang/IllegalStateException" "java/lang/RuntimeException")) ∈ lw_all := lw_in3 (List.mem_of_getElem? (i := 176) (by decide +kernel)) rfl
theorem q3_177 : (Cond.methodLink RX5 92 yX3_doMove) ∈ lw_all := lw_in3 (List.mem_of_getElem? (i := 177) (by decide +kernel)) rfl
theorem q3_178 : (Cond.instanceMethod yX3_doMove) ∈ lw_all := lw_in3 (List.mem_of_getElem? (i := 178) (by decide +kernel)) rfl
theorem q3_179 : (Cond.selects RX3 yX3_doMove yX3_doMove) ∈ lw_all := lw_in3 (List.mem_of_getElem? (i := 179) (by decide +kernel)) rfl
theorem q3_180 : (Cond.code yX3_doMove cX3_doMove 4 none) ∈ lw_all := lw_in3 (List.mem_of_getElem? (i := 180) (by decide +kernel)) rfl
theorem q3_181 : (Cond.methodLink RX3 74 yX3_opens) ∈ lw_all := lw_in3 (List.mem_of_getElem? (i := 181) (by decide +kernel)) rfl
theorem q3_182 : (Cond.methodLink RX3 78 yX1_move) ∈ lw_all := lw_in3 (List.mem_of_getElem? (i := 182) (by decide +kernel)) rfl
theorem q3_183 : (Cond.methodLink RX3 82 yX1_notchesBy) ∈ lw_all := lw_in3 (List.mem_of_getElem? (i := 183) (by decide +kernel)) rfl
theorem q3_184 : (Cond.instanceMethod yX1_notchesBy) ∈ lw_all := lw_in3 (List.mem_of_getElem? (i := 184) (by decide +kernel)) rfl
theorem q3_185 : (Cond.selects RX1 yX1_notchesBy yX1_notchesBy) ∈ lw_all := lw_in3 (List.mem_of_getElem? (i := 185) (by decide +kernel)) rfl
theorem q3_186 : (Cond.code yX1_notchesBy cX1_notchesBy 4 (some .int)) ∈ lw_all := lw_in3 (List.mem_of_getElem? (i := 186) (by decide +kernel)) rfl
theorem q3_187 : (Cond.methodLink RX1 38 yJ6_bitCount_0f7a4) ∈ lw_all := lw_in3 (List.mem_of_getElem? (i := 187) (by decide +kernel)) rfl
theorem q3_188 : (Cond.methodLink RX3 85 yJ9_floorMod_7cf53) ∈ lw_all := lw_in3 (List.mem_of_getElem? (i := 188) (by decide +kernel)) rfl
theorem q3_189 : (Cond.static yJ9_floorMod_7cf53) ∈ lw_all := lw_in3 (List.mem_of_getElem? (i := 189) (by decide +kernel)) rfl
theorem q3_190 : (Cond.code yJ9_floorMod_7cf53 cJ9_floorMod_7cf53 3 (some .int)) ∈ lw_all := lw_in3 (List.mem_of_getElem? (i := 190) (by decide +kernel)) rfl
theorem q3_191 : (Cond.methodLink RL 77 yL_back) ∈ lw_all := lw_in3 (List.mem_of_getElem? (i := 191) (by decide +kernel)) rfl
theorem q3_192 : (Cond.static yL_back) ∈ lw_all := lw_in3 (List.mem_of_getElem? (i := 192) (by decide +kernel)) rfl
theorem q3_193 : ((Jvm.Cond.codeWith ({ cls := "PairedTumblersLaw", name := "back", desc := "(LPairedTumblers;I[J)I" } : Jvm.MethodName) method_4_code (4 : Nat) (Option.some Jvm.ClassFile.FieldType.int) [((0 : Nat), (9 : Nat), (12 : Nat), (13 : Nat)), ((0 : Nat), (9 : Nat), (15 : Nat), (15 : Nat))])) ∈ lw_all := lw_in3 (List.mem_of_getElem? (i := 193) (by decide +kernel)) rfl
theorem q3_194 : (Cond.methodLink RL 17 yX5_back) ∈ lw_all := lw_in3 (List.mem_of_getElem? (i := 194) (by decide +kernel)) rfl
theorem q3_195 : (Cond.instanceMethod yX5_back) ∈ lw_all := lw_in3 (List.mem_of_getElem? (i := 195) (by decide +kernel)) rfl
theorem q3_196 : (Cond.selects RX5 yX5_back yX5_back) ∈ lw_all := lw_in3 (List.mem_of_getElem? (i := 196) (by decide +kernel)) rfl
theorem q3_197 : (Cond.code yX5_back cX5_back 2 (some .int)) ∈ lw_all := lw_in3 (List.mem_of_getElem? (i := 197) (by decide +kernel)) rfl
theorem q3_198 : (Cond.methodLink RL 80 yL_word) ∈ lw_all := lw_in3 (List.mem_of_getElem? (i := 198) (by decide +kernel)) rfl
theorem q3_199 : (Cond.static yL_word) ∈ lw_all := lw_in3 (List.mem_of_getElem? (i := 199) (by decide +kernel)) rfl
theorem q3_200 : ((Jvm.Cond.codeWith ({ cls := "PairedTumblersLaw", name := "word", desc := "(LPairedTumblers;[J)I" } : Jvm.MethodName) method_5_code (3 : Nat) (Option.some Jvm.ClassFile.FieldType.int) [((0 : Nat), (8 : Nat), (11 : Nat), (24 : Nat)), ((0 : Nat), (8 : Nat), (14 : Nat), (15 : Nat))])) ∈ lw_all := lw_in3 (List.mem_of_getElem? (i := 200) (by decide +kernel)) rfl
theorem q3_201 : (Cond.classLink RL 24 "java/lang/IllegalArgumentException") ∈ lw_all := lw_in3 (List.mem_of_getElem? (i := 201) (by decide +kernel)) rfl
theorem q3_202 : (Cond.methodLink RL 20 yX5_word) ∈ lw_all := lw_in3 (List.mem_of_getElem? (i := 202) (by decide +kernel)) rfl
theorem q3_203 : (Cond.instanceMethod yX5_word) ∈ lw_all := lw_in3 (List.mem_of_getElem? (i := 203) (by decide +kernel)) rfl
theorem q3_204 : (Cond.selects RX5 yX5_word yX5_word) ∈ lw_all := lw_in3 (List.mem_of_getElem? (i := 204) (by decide +kernel)) rfl
theorem q3_205 : (Cond.code yX5_word cX5_word 2 (some .int)) ∈ lw_all := lw_in3 (List.mem_of_getElem? (i := 205) (by decide +kernel)) rfl
theorem q3_208 : (Cond.methodLink RX5 84 yX4_moveAt) ∈ lw_all := lw_in3 (List.mem_of_getElem? (i := 208) (by decide +kernel)) rfl
theorem q3_209 : (Cond.methodLink RL 88 yL_cut) ∈ lw_all := lw_in3 (List.mem_of_getElem? (i := 209) (by decide +kernel)) rfl
theorem q3_210 : (Cond.static yL_cut) ∈ lw_all := lw_in3 (List.mem_of_getElem? (i := 210) (by decide +kernel)) rfl
theorem q3_211 : ((Jvm.Cond.codeWith ({ cls := "PairedTumblersLaw", name := "cut", desc := "(LPairedTumblers;III[J)I" } : Jvm.MethodName) method_6_code (6 : Nat) (Option.some Jvm.ClassFile.FieldType.int) [((0 : Nat), (12 : Nat), (15 : Nat), (13 : Nat)), ((0 : Nat), (12 : Nat), (19 : Nat), (24 : Nat))])) ∈ lw_all := lw_in3 (List.mem_of_getElem? (i := 211) (by decide +kernel)) rfl
theorem q3_212 : (Cond.methodLink RL 26 yX5_cut) ∈ lw_all := lw_in3 (List.mem_of_getElem? (i := 212) (by decide +kernel)) rfl
theorem q3_213 : (Cond.instanceMethod yX5_cut) ∈ lw_all := lw_in3 (List.mem_of_getElem? (i := 213) (by decide +kernel)) rfl
theorem q3_214 : (Cond.selects RX5 yX5_cut yX5_cut) ∈ lw_all := lw_in3 (List.mem_of_getElem? (i := 214) (by decide +kernel)) rfl
theorem q3_215 : (Cond.code yX5_cut cX5_cut 5 (some .int)) ∈ lw_all := lw_in3 (List.mem_of_getElem? (i := 215) (by decide +kernel)) rfl
theorem q3_216 : (Cond.methodLink RX5 119 yX5_isKeyMask) ∈ lw_all := lw_in3 (List.mem_of_getElem? (i := 216) (by decide +kernel)) rfl
theorem q3_217 : (Cond.static yX5_isKeyMask) ∈ lw_all := lw_in3 (List.mem_of_getElem? (i := 217) (by decide +kernel)) rfl
theorem q3_218 : (Cond.code yX5_isKeyMask cX5_isKeyMask 1 (some .boolean)) ∈ lw_all := lw_in3 (List.mem_of_getElem? (i := 218) (by decide +kernel)) rfl
theorem q3_220 : (Cond.methodLink RX5 133 yX1_shape) ∈ lw_all := lw_in3 (List.mem_of_getElem? (i := 220) (by decide +kernel)) rfl
theorem q3_221 : (Cond.instanceMethod yX1_shape) ∈ lw_all := lw_in3 (List.mem_of_getElem? (i := 221) (by decide +kernel)) rfl
theorem q3_222 : (Cond.selects RX1 yX1_shape yX1_shape) ∈ lw_all := lw_in3 (List.mem_of_getElem? (i := 222) (by decide +kernel)) rfl
theorem q3_223 : (Cond.code yX1_shape cX1_shape 4 none) ∈ lw_all := lw_in3 (List.mem_of_getElem? (i := 223) (by decide +kernel)) rfl
theorem q3_224 : (Cond.methodLink RL 92 yL_stick) ∈ lw_all := lw_in3 (List.mem_of_getElem? (i := 224) (by decide +kernel)) rfl
theorem q3_225 : (Cond.static yL_stick) ∈ lw_all := lw_in3 (List.mem_of_getElem? (i := 225) (by decide +kernel)) rfl
theorem q3_226 : ((Jvm.Cond.codeWith ({ cls := "PairedTumblersLaw", name := "stick", desc := "(LPairedTumblers;I[J)I" } : Jvm.MethodName) method_7_code (4 : Nat) (Option.some Jvm.ClassFile.FieldType.int) [((0 : Nat), (9 : Nat), (12 : Nat), (13 : Nat))])) ∈ lw_all := lw_in3 (List.mem_of_getElem? (i := 226) (by decide +kernel)) rfl
theorem q3_227 : (Cond.methodLink RL 30 yX5_stick) ∈ lw_all := lw_in3 (List.mem_of_getElem? (i := 227) (by decide +kernel)) rfl
theorem q3_228 : (Cond.instanceMethod yX5_stick) ∈ lw_all := lw_in3 (List.mem_of_getElem? (i := 228) (by decide +kernel)) rfl
theorem q3_229 : (Cond.selects RX5 yX5_stick yX5_stick) ∈ lw_all := lw_in3 (List.mem_of_getElem? (i := 229) (by decide +kernel)) rfl
theorem q3_230 : (Cond.code yX5_stick cX5_stick 2 (some .int)) ∈ lw_all := lw_in3 (List.mem_of_getElem? (i := 230) (by decide +kernel)) rfl
theorem q3_231 : (Cond.methodLink RL 99 yL_append) ∈ lw_all := lw_in3 (List.mem_of_getElem? (i := 231) (by decide +kernel)) rfl
theorem q3_232 : (Cond.static yL_append) ∈ lw_all := lw_in3 (List.mem_of_getElem? (i := 232) (by decide +kernel)) rfl
theorem q3_233 : ((Jvm.Cond.codeWith ({ cls := "PairedTumblersLaw", name := "append", desc := "(LPairedTumblers;I[J)I" } : Jvm.MethodName) method_8_code (4 : Nat) (Option.some Jvm.ClassFile.FieldType.int) [((0 : Nat), (9 : Nat), (12 : Nat), (24 : Nat)), ((0 : Nat), (9 : Nat), (15 : Nat), (15 : Nat))])) ∈ lw_all := lw_in3 (List.mem_of_getElem? (i := 233) (by decide +kernel)) rfl
theorem q3_234 : (Cond.methodLink RL 33 yX5_append) ∈ lw_all := lw_in3 (List.mem_of_getElem? (i := 234) (by decide +kernel)) rfl
theorem q3_235 : (Cond.instanceMethod yX5_append) ∈ lw_all := lw_in3 (List.mem_of_getElem? (i := 235) (by decide +kernel)) rfl
theorem q3_236 : (Cond.selects RX5 yX5_append yX5_append) ∈ lw_all := lw_in3 (List.mem_of_getElem? (i := 236) (by decide +kernel)) rfl
theorem q3_237 : (Cond.code yX5_append cX5_append 2 (some .int)) ∈ lw_all := lw_in3 (List.mem_of_getElem? (i := 237) (by decide +kernel)) rfl
theorem q4_0 : (Cond.methodLink RX5 163 yX4_addSign) ∈ lw_all := lw_in4 (List.mem_of_getElem? (i := 0) (by decide +kernel)) rfl
theorem q4_1 : (Cond.instanceMethod yX4_addSign) ∈ lw_all := lw_in4 (List.mem_of_getElem? (i := 1) (by decide +kernel)) rfl
theorem q4_2 : (Cond.selects RX4 yX4_addSign yX4_addSign) ∈ lw_all := lw_in4 (List.mem_of_getElem? (i := 2) (by decide +kernel)) rfl
theorem q4_3 : (Cond.code yX4_addSign cX4_addSign 2 none) ∈ lw_all := lw_in4 (List.mem_of_getElem? (i := 3) (by decide +kernel)) rfl
theorem q4_4 : (Cond.methodLink RL 114 yL_goBack) ∈ lw_all := lw_in4 (List.mem_of_getElem? (i := 4) (by decide +kernel)) rfl
theorem q4_5 : (Cond.static yL_goBack) ∈ lw_all := lw_in4 (List.mem_of_getElem? (i := 5) (by decide +kernel)) rfl
theorem q4_6 : ((Jvm.Cond.codeWith ({ cls := "PairedTumblersLaw", name := "goBack", desc := "(LPairedTumblers;[J)I" } : Jvm.MethodName) method_9_code (3 : Nat) (Option.some Jvm.ClassFile.FieldType.int) [((0 : Nat), (8 : Nat), (11 : Nat), (15 : Nat))])) ∈ lw_all := lw_in4 (List.mem_of_getElem? (i := 6) (by decide +kernel)) rfl
theorem q4_7 : (Cond.methodLink RL 36 yX5_goBack) ∈ lw_all := lw_in4 (List.mem_of_getElem? (i := 7) (by decide +kernel)) rfl
theorem q4_8 : (Cond.instanceMethod yX5_goBack) ∈ lw_all := lw_in4 (List.mem_of_getElem? (i := 8) (by decide +kernel)) rfl
theorem q4_9 : (Cond.selects RX5 yX5_goBack yX5_goBack) ∈ lw_all := lw_in4 (List.mem_of_getElem? (i := 9) (by decide +kernel)) rfl
end
section
theorem q4_10 : (Cond.code yX5_goBack cX5_goBack 1 (some .int)) ∈ lw_all := lw_in4 (List.mem_of_getElem? (i := 10) (by decide +kernel)) rfl
theorem q4_12 : (Cond.methodLink RL 117 yL_undo) ∈ lw_all := lw_in4 (List.mem_of_getElem? (i := 12) (by decide +kernel)) rfl
theorem q4_13 : (Cond.static yL_undo) ∈ lw_all := lw_in4 (List.mem_of_getElem? (i := 13) (by decide +kernel)) rfl
theorem q4_14 : ((Jvm.Cond.codeWith ({ cls := "PairedTumblersLaw", name := "undo", desc := "(LPairedTumblers;[J)I" } : Jvm.MethodName) method_10_code (3 : Nat) (Option.some Jvm.ClassFile.FieldType.int) [((0 : Nat), (8 : Nat), (11 : Nat), (15 : Nat))])) ∈ lw_all := lw_in4 (List.mem_of_getElem? (i := 14) (by decide +kernel)) rfl
theorem q4_15 : (Cond.methodLink RL 39 yX5_undo) ∈ lw_all := lw_in4 (List.mem_of_getElem? (i := 15) (by decide +kernel)) rfl
theorem q4_16 : (Cond.instanceMethod yX5_undo) ∈ lw_all := lw_in4 (List.mem_of_getElem? (i := 16) (by decide +kernel)) rfl
theorem q4_17 : (Cond.selects RX5 yX5_undo yX5_undo) ∈ lw_all := lw_in4 (List.mem_of_getElem? (i := 17) (by decide +kernel)) rfl
theorem q4_18 : (Cond.code yX5_undo cX5_undo 2 (some .int)) ∈ lw_all := lw_in4 (List.mem_of_getElem? (i := 18) (by decide +kernel)) rfl
theorem q4_20 : (Cond.methodLink RL 120 yL_at) ∈ lw_all := lw_in4 (List.mem_of_getElem? (i := 20) (by decide +kernel)) rfl
theorem q4_21 : (Cond.static yL_at) ∈ lw_all := lw_in4 (List.mem_of_getElem? (i := 21) (by decide +kernel)) rfl
theorem q4_22 : ((Jvm.Cond.codeWith ({ cls := "PairedTumblersLaw", name := "at", desc := "(LPairedTumblers;II[J)I" } : Jvm.MethodName) method_11_code (5 : Nat) (Option.some Jvm.ClassFile.FieldType.int) [((0 : Nat), (10 : Nat), (13 : Nat), (13 : Nat)), ((0 : Nat), (10 : Nat), (17 : Nat), (24 : Nat))])) ∈ lw_all := lw_in4 (List.mem_of_getElem? (i := 22) (by decide +kernel)) rfl
theorem q4_23 : (Cond.methodLink RL 42 yX5_at) ∈ lw_all := lw_in4 (List.mem_of_getElem? (i := 23) (by decide +kernel)) rfl
theorem q4_24 : (Cond.methodLink RL 124 yL_key) ∈ lw_all := lw_in4 (List.mem_of_getElem? (i := 24) (by decide +kernel)) rfl
theorem q4_25 : (Cond.static yL_key) ∈ lw_all := lw_in4 (List.mem_of_getElem? (i := 25) (by decide +kernel)) rfl
theorem q4_26 : ((Jvm.Cond.codeWith ({ cls := "PairedTumblersLaw", name := "key", desc := "(LPairedTumblers;II[J)I" } : Jvm.MethodName) method_12_code (5 : Nat) (Option.some Jvm.ClassFile.FieldType.int) [((0 : Nat), (10 : Nat), (13 : Nat), (13 : Nat)), ((0 : Nat), (10 : Nat), (17 : Nat), (24 : Nat))])) ∈ lw_all := lw_in4 (List.mem_of_getElem? (i := 26) (by decide +kernel)) rfl
theorem q4_27 : (Cond.methodLink RL 46 yX5_key) ∈ lw_all := lw_in4 (List.mem_of_getElem? (i := 27) (by decide +kernel)) rfl
theorem q4_28 : (Cond.methodLink RL 127 yL_pair) ∈ lw_all := lw_in4 (List.mem_of_getElem? (i := 28) (by decide +kernel)) rfl
theorem q4_29 : (Cond.static yL_pair) ∈ lw_all := lw_in4 (List.mem_of_getElem? (i := 29) (by decide +kernel)) rfl
theorem q4_30 : ((Jvm.Cond.codeWith ({ cls := "PairedTumblersLaw", name := "pair", desc := "(LPairedTumblers;III[J)I" } : Jvm.MethodName) method_13_code (6 : Nat) (Option.some Jvm.ClassFile.FieldType.int) [((0 : Nat), (12 : Nat), (15 : Nat), (13 : Nat)), ((0 : Nat), (12 : Nat), (19 : Nat), (24 : Nat))])) ∈ lw_all := lw_in4 (List.mem_of_getElem? (i := 30) (by decide +kernel)) rfl
theorem q4_31 : (Cond.methodLink RL 49 yX5_pair) ∈ lw_all := lw_in4 (List.mem_of_getElem? (i := 31) (by decide +kernel)) rfl
theorem q4_32 : (Cond.methodLink RL 130 yL_ofWord) ∈ lw_all := lw_in4 (List.mem_of_getElem? (i := 32) (by decide +kernel)) rfl
theorem q4_33 : (Cond.static yL_ofWord) ∈ lw_all := lw_in4 (List.mem_of_getElem? (i := 33) (by decide +kernel)) rfl
theorem q4_34 : ((Jvm.Cond.codeWith ({ cls := "PairedTumblersLaw", name := "ofWord", desc := "(LPairedTumblers;I[J)I" } : Jvm.MethodName) method_14_code (4 : Nat) (Option.some Jvm.ClassFile.FieldType.int) [((0 : Nat), (9 : Nat), (12 : Nat), (24 : Nat))])) ∈ lw_all := lw_in4 (List.mem_of_getElem? (i := 34) (by decide +kernel)) rfl
theorem q4_35 : (Cond.methodLink RL 52 yX5_ofWord) ∈ lw_all := lw_in4 (List.mem_of_getElem? (i := 35) (by decide +kernel)) rfl
theorem q4_36 : (Cond.instanceMethod yX5_ofWord) ∈ lw_all := lw_in4 (List.mem_of_getElem? (i := 36) (by decide +kernel)) rfl
theorem q4_37 : (Cond.selects RX5 yX5_ofWord yX5_ofWord) ∈ lw_all := lw_in4 (List.mem_of_getElem? (i := 37) (by decide +kernel)) rfl
theorem q4_38 : (Cond.code yX5_ofWord cX5_ofWord 2 (some .int)) ∈ lw_all := lw_in4 (List.mem_of_getElem? (i := 38) (by decide +kernel)) rfl
theorem q4_39 : (Cond.methodLink RX5 213 yJ9_min_7cf53) ∈ lw_all := lw_in4 (List.mem_of_getElem? (i := 39) (by decide +kernel)) rfl
theorem q4_40 : (Cond.static yJ9_min_7cf53) ∈ lw_all := lw_in4 (List.mem_of_getElem? (i := 40) (by decide +kernel)) rfl
theorem q4_41 : (Cond.code yJ9_min_7cf53 cJ9_min_7cf53 2 (some .int)) ∈ lw_all := lw_in4 (List.mem_of_getElem? (i := 41) (by decide +kernel)) rfl
theorem q4_42 : (Cond.methodLink RX5 219 yX5_ofShortWord) ∈ lw_all := lw_in4 (List.mem_of_getElem? (i := 42) (by decide +kernel)) rfl
theorem q4_44 : (Cond.instanceMethod yX5_ofShortWord) ∈ lw_all := lw_in4 (List.mem_of_getElem? (i := 44) (by decide +kernel)) rfl
theorem q4_45 : (Cond.code yX5_ofShortWord cX5_ofShortWord 2 (some .int)) ∈ lw_all := lw_in4 (List.mem_of_getElem? (i := 45) (by decide +kernel)) rfl
theorem q4_46 : (Cond.methodLink RX5 317 yX4_turnsLessBacks) ∈ lw_all := lw_in4 (List.mem_of_getElem? (i := 46) (by decide +kernel)) rfl
theorem q4_47 : (Cond.instanceMethod yX4_turnsLessBacks) ∈ lw_all := lw_in4 (List.mem_of_getElem? (i := 47) (by decide +kernel)) rfl
theorem q4_48 : (Cond.selects RX4 yX4_turnsLessBacks yX4_turnsLessBacks) ∈ lw_all := lw_in4 (List.mem_of_getElem? (i := 48) (by decide +kernel)) rfl
theorem q4_49 : (Cond.code yX4_turnsLessBacks cX4_turnsLessBacks 3 (some .int)) ∈ lw_all := lw_in4 (List.mem_of_getElem? (i := 49) (by decide +kernel)) rfl
theorem qn4_50 : (Cond.methodLinkNest RX4 48 yX5_isBack RX5) ∈ lw_nw := lw_nin4 (List.mem_of_getElem? (i := 50) (by decide +kernel)) rfl
theorem q4_51 : (Cond.methodLink RX5 320 yX5_showWord) ∈ lw_all := lw_in4 (List.mem_of_getElem? (i := 51) (by decide +kernel)) rfl
theorem q4_53 : (Cond.instanceMethod yX5_showWord) ∈ lw_all := lw_in4 (List.mem_of_getElem? (i := 53) (by decide +kernel)) rfl
theorem q4_54 : (Cond.code yX5_showWord cX5_showWord 2 none) ∈ lw_all := lw_in4 (List.mem_of_getElem? (i := 54) (by decide +kernel)) rfl
theorem q4_55 : (Cond.methodLink RL 133 yL_count) ∈ lw_all := lw_in4 (List.mem_of_getElem? (i := 55) (by decide +kernel)) rfl
theorem q4_56 : (Cond.static yL_count) ∈ lw_all := lw_in4 (List.mem_of_getElem? (i := 56) (by decide +kernel)) rfl
theorem q4_57 : ((Jvm.Cond.codeWith ({ cls := "PairedTumblersLaw", name := "count", desc := "(LPairedTumblers;I[J)I" } : Jvm.MethodName) method_15_code (4 : Nat) (Option.some Jvm.ClassFile.FieldType.int) [((0 : Nat), (9 : Nat), (12 : Nat), (24 : Nat))])) ∈ lw_all := lw_in4 (List.mem_of_getElem? (i := 57) (by decide +kernel)) rfl
theorem q4_58 : (Cond.methodLink RL 55 yX5_count) ∈ lw_all := lw_in4 (List.mem_of_getElem? (i := 58) (by decide +kernel)) rfl
theorem q4_59 : (Cond.methodLink RL 136 yL_openIn) ∈ lw_all := lw_in4 (List.mem_of_getElem? (i := 59) (by decide +kernel)) rfl
theorem q4_60 : (Cond.static yL_openIn) ∈ lw_all := lw_in4 (List.mem_of_getElem? (i := 60) (by decide +kernel)) rfl
theorem q4_61 : ((Jvm.Cond.codeWith ({ cls := "PairedTumblersLaw", name := "openIn", desc := "(LPairedTumblers;I[J)I" } : Jvm.MethodName) method_16_code (4 : Nat) (Option.some Jvm.ClassFile.FieldType.int) [((0 : Nat), (9 : Nat), (12 : Nat), (24 : Nat))])) ∈ lw_all := lw_in4 (List.mem_of_getElem? (i := 61) (by decide +kernel)) rfl
theorem q4_62 : (Cond.methodLink RL 58 yX5_openIn) ∈ lw_all := lw_in4 (List.mem_of_getElem? (i := 62) (by decide +kernel)) rfl
theorem q4_63 : (Cond.methodLink RL 139 yL_ifTurned) ∈ lw_all := lw_in4 (List.mem_of_getElem? (i := 63) (by decide +kernel)) rfl
theorem q4_64 : (Cond.static yL_ifTurned) ∈ lw_all := lw_in4 (List.mem_of_getElem? (i := 64) (by decide +kernel)) rfl
theorem q4_65 : ((Jvm.Cond.codeWith ({ cls := "PairedTumblersLaw", name := "ifTurned", desc := "(LPairedTumblers;II[J)I" } : Jvm.MethodName) method_17_code (5 : Nat) (Option.some Jvm.ClassFile.FieldType.int) [((0 : Nat), (10 : Nat), (13 : Nat), (13 : Nat)), ((0 : Nat), (10 : Nat), (17 : Nat), (24 : Nat))])) ∈ lw_all := lw_in4 (List.mem_of_getElem? (i := 65) (by decide +kernel)) rfl
theorem q4_66 : (Cond.methodLink RL 61 yX5_ifTurned) ∈ lw_all := lw_in4 (List.mem_of_getElem? (i := 66) (by decide +kernel)) rfl
theorem q4_67 : (Cond.classLink RL 65 RX6) ∈ lw_all := lw_in4 (List.mem_of_getElem? (i := 67) (by decide +kernel)) rfl
theorem q4_68 : (Cond.instantiable RX6 21) ∈ lw_all := lw_in4 (List.mem_of_getElem? (i := 68) (by decide +kernel)) rfl
theorem q4_69 : (Cond.methodLink RL 67 yX6_init) ∈ lw_all := lw_in4 (List.mem_of_getElem? (i := 69) (by decide +kernel)) rfl
theorem q4_70 : (Cond.instanceMethod yX6_init) ∈ lw_all := lw_in4 (List.mem_of_getElem? (i := 70) (by decide +kernel)) rfl
theorem q4_71 : (Cond.code yX6_init cX6_init 2 none) ∈ lw_all := lw_in4 (List.mem_of_getElem? (i := 71) (by decide +kernel)) rfl
theorem q4_72 : (Cond.methodLink RX6 1 ⟨"java/lang/Object", "<init>", "()V"⟩) ∈ lw_all := lw_in4 (List.mem_of_getElem? (i := 72) (by decide +kernel)) rfl
theorem q4_73 : (Cond.fieldLink RX6 46 "PairedTumblersModel" "thrown" "I") ∈ lw_all := lw_in4 (List.mem_of_getElem? (i := 73) (by decide +kernel)) rfl
theorem q4_74 : (Cond.fieldLink RX6 7 "PairedTumblersModel" "z" "[I") ∈ lw_all := lw_in4 (List.mem_of_getElem? (i := 74) (by decide +kernel)) rfl
theorem q4_75 : (Cond.fieldLink RX6 13 "PairedTumblersModel" "aside" "[I") ∈ lw_all := lw_in4 (List.mem_of_getElem? (i := 75) (by decide +kernel)) rfl
theorem q4_76 : (Cond.fieldLink RX6 16 "PairedTumblersModel" "saved" "[I") ∈ lw_all := lw_in4 (List.mem_of_getElem? (i := 76) (by decide +kernel)) rfl
theorem q4_77 : (Cond.fieldLink RX6 54 "PairedTumblersModel" "saves" "I") ∈ lw_all := lw_in4 (List.mem_of_getElem? (i := 77) (by decide +kernel)) rfl
theorem q4_78 : (Cond.fieldLink RX6 19 "PairedTumblersModel" "kept" "[I") ∈ lw_all := lw_in4 (List.mem_of_getElem? (i := 78) (by decide +kernel)) rfl
theorem q4_79 : (Cond.fieldLink RX6 57 "PairedTumblersModel" "isKept" "Z") ∈ lw_all := lw_in4 (List.mem_of_getElem? (i := 79) (by decide +kernel)) rfl
theorem q4_80 : (Cond.fieldLink RX6 22 "PairedTumblersModel" "text" "[I") ∈ lw_all := lw_in4 (List.mem_of_getElem? (i := 80) (by decide +kernel)) rfl
theorem q4_81 : (Cond.fieldLink RX6 113 "PairedTumblersModel" "length" "I") ∈ lw_all := lw_in4 (List.mem_of_getElem? (i := 81) (by decide +kernel)) rfl
theorem q4_82 : (Cond.fieldLink RX6 25 "PairedTumblersModel" "was" "[I") ∈ lw_all := lw_in4 (List.mem_of_getElem? (i := 82) (by decide +kernel)) rfl
theorem q4_83 : (Cond.fieldLink RX6 28 "PairedTumblersModel" "word" "[I") ∈ lw_all := lw_in4 (List.mem_of_getElem? (i := 83) (by decide +kernel)) rfl
theorem q4_84 : (Cond.fieldLink RX6 110 "PairedTumblersModel" "turns" "I") ∈ lw_all := lw_in4 (List.mem_of_getElem? (i := 84) (by decide +kernel)) rfl
theorem q4_85 : (Cond.fieldLink RX6 146 "PairedTumblersModel" "sum" "I") ∈ lw_all := lw_in4 (List.mem_of_getElem? (i := 85) (by decide +kernel)) rfl
theorem q4_86 : (Cond.fieldLink RX6 31 "PairedTumblersModel" "bracket" "[I") ∈ lw_all := lw_in4 (List.mem_of_getElem? (i := 86) (by decide +kernel)) rfl
theorem q4_87 : (Cond.fieldLink RX6 34 "PairedTumblersModel" "begin" "[I") ∈ lw_all := lw_in4 (List.mem_of_getElem? (i := 87) (by decide +kernel)) rfl
theorem q4_88 : (Cond.fieldLink RX6 37 "PairedTumblersModel" "middle" "[I") ∈ lw_all := lw_in4 (List.mem_of_getElem? (i := 88) (by decide +kernel)) rfl
theorem q4_89 : (Cond.fieldLink RX6 40 "PairedTumblersModel" "ahead" "[I") ∈ lw_all := lw_in4 (List.mem_of_getElem? (i := 89) (by decide +kernel)) rfl
theorem q4_90 : (Cond.fieldLink RX6 43 "PairedTumblersModel" "part" "[I") ∈ lw_all := lw_in4 (List.mem_of_getElem? (i := 90) (by decide +kernel)) rfl
theorem q4_91 : (Cond.fieldLink RX6 137 "PairedTumblersModel" "open" "I") ∈ lw_all := lw_in4 (List.mem_of_getElem? (i := 91) (by decide +kernel)) rfl
theorem q4_92 : (Cond.fieldLink RX6 134 "PairedTumblersModel" "isFilled" "Z") ∈ lw_all := lw_in4 (List.mem_of_getElem? (i := 92) (by decide +kernel)) rfl
theorem q4_93 : (Cond.fieldLink RX6 131 "PairedTumblersModel" "needsFigure" "Z") ∈ lw_all := lw_in4 (List.mem_of_getElem? (i := 93) (by decide +kernel)) rfl
theorem q4_94 : ((Jvm.Cond.lays "PairedTumblersModel" "PairedTumblersModel" "thrown" "I")) ∈ lw_all := lw_in4 (List.mem_of_getElem? (i := 94) (by decide +kernel)) rfl
theorem q4_95 : ((Jvm.Cond.soleField "PairedTumblersModel" "thrown")) ∈ lw_all := lw_in4 (List.mem_of_getElem? (i := 95) (by decide +kernel)) rfl
theorem q4_96 : ((Jvm.Cond.laysFinal "PairedTumblersModel" "PairedTumblersModel" "z" "[I")) ∈ lw_all := lw_in4 (List.mem_of_getElem? (i := 96) (by decide +kernel)) rfl
theorem q4_97 : ((Jvm.Cond.soleField "PairedTumblersModel" "z")) ∈ lw_all := lw_in4 (List.mem_of_getElem? (i := 97) (by decide +kernel)) rfl
theorem q4_98 : ((Jvm.Cond.laysFinal "PairedTumblersModel" "PairedTumblersModel" "aside" "[I")) ∈ lw_all := lw_in4 (List.mem_of_getElem? (i := 98) (by decide +kernel)) rfl
theorem q4_99 : ((Jvm.Cond.soleField "PairedTumblersModel" "aside")) ∈ lw_all := lw_in4 (List.mem_of_getElem? (i := 99) (by decide +kernel)) rfl
theorem q4_100 : ((Jvm.Cond.laysFinal "PairedTumblersModel" "PairedTumblersModel" "saved" "[I")) ∈ lw_all := lw_in4 (List.mem_of_getElem? (i := 100) (by decide +kernel)) rfl
theorem q4_101 : ((Jvm.Cond.soleField "PairedTumblersModel" "saved")) ∈ lw_all := lw_in4 (List.mem_of_getElem? (i := 101) (by decide +kernel)) rfl
theorem q4_102 : ((Jvm.Cond.lays "PairedTumblersModel" "PairedTumblersModel" "saves" "I")) ∈ lw_all := lw_in4 (List.mem_of_getElem? (i := 102) (by decide +kernel)) rfl
theorem q4_103 : ((Jvm.Cond.soleField "PairedTumblersModel" "saves")) ∈ lw_all := lw_in4 (List.mem_of_getElem? (i := 103) (by decide +kernel)) rfl
theorem q4_104 : ((Jvm.Cond.laysFinal "PairedTumblersModel" "PairedTumblersModel" "kept" "[I")) ∈ lw_all := lw_in4 (List.mem_of_getElem? (i := 104) (by decide +kernel)) rfl
theorem q4_105 : ((Jvm.Cond.soleField "PairedTumblersModel" "kept")) ∈ lw_all := lw_in4 (List.mem_of_getElem? (i := 105) (by decide +kernel)) rfl
theorem q4_106 : ((Jvm.Cond.lays "PairedTumblersModel" "PairedTumblersModel" "isKept" "Z")) ∈ lw_all := lw_in4 (List.mem_of_getElem? (i := 106) (by decide +kernel)) rfl
theorem q4_107 : ((Jvm.Cond.soleField "PairedTumblersModel" "isKept")) ∈ lw_all := lw_in4 (List.mem_of_getElem? (i := 107) (by decide +kernel)) rfl
theorem q4_108 : ((Jvm.Cond.laysFinal "PairedTumblersModel" "PairedTumblersModel" "text" "[I")) ∈ lw_all := lw_in4 (List.mem_of_getElem? (i := 108) (by decide +kernel)) rfl
theorem q4_109 : ((Jvm.Cond.soleField "PairedTumblersModel" "text")) ∈ lw_all := lw_in4 (List.mem_of_getElem? (i := 109) (by decide +kernel)) rfl
theorem q4_110 : ((Jvm.Cond.lays "PairedTumblersModel" "PairedTumblersModel" "length" "I")) ∈ lw_all := lw_in4 (List.mem_of_getElem? (i := 110) (by decide +kernel)) rfl
theorem q4_111 : ((Jvm.Cond.soleField "PairedTumblersModel" "length")) ∈ lw_all := lw_in4 (List.mem_of_getElem? (i := 111) (by decide +kernel)) rfl
theorem q4_112 : ((Jvm.Cond.laysFinal "PairedTumblersModel" "PairedTumblersModel" "was" "[I")) ∈ lw_all := lw_in4 (List.mem_of_getElem? (i := 112) (by decide +kernel)) rfl
theorem q4_113 : ((Jvm.Cond.soleField "PairedTumblersModel" "was")) ∈ lw_all := lw_in4 (List.mem_of_getElem? (i := 113) (by decide +kernel)) rfl
theorem q4_114 : ((Jvm.Cond.laysFinal "PairedTumblersModel" "PairedTumblersModel" "word" "[I")) ∈ lw_all := lw_in4 (List.mem_of_getElem? (i := 114) (by decide +kernel)) rfl
theorem q4_115 : ((Jvm.Cond.soleField "PairedTumblersModel" "word")) ∈ lw_all := lw_in4 (List.mem_of_getElem? (i := 115) (by decide +kernel)) rfl
theorem q4_116 : ((Jvm.Cond.lays "PairedTumblersModel" "PairedTumblersModel" "turns" "I")) ∈ lw_all := lw_in4 (List.mem_of_getElem? (i := 116) (by decide +kernel)) rfl
theorem q4_117 : ((Jvm.Cond.soleField "PairedTumblersModel" "turns")) ∈ lw_all := lw_in4 (List.mem_of_getElem? (i := 117) (by decide +kernel)) rfl
theorem q4_118 : ((Jvm.Cond.lays "PairedTumblersModel" "PairedTumblersModel" "sum" "I")) ∈ lw_all := lw_in4 (List.mem_of_getElem? (i := 118) (by decide +kernel)) rfl
theorem q4_119 : ((Jvm.Cond.soleField "PairedTumblersModel" "sum")) ∈ lw_all := lw_in4 (List.mem_of_getElem? (i := 119) (by decide +kernel)) rfl
theorem q4_120 : ((Jvm.Cond.laysFinal "PairedTumblersModel" "PairedTumblersModel" "bracket" "[I")) ∈ lw_all := lw_in4 (List.mem_of_getElem? (i := 120) (by decide +kernel)) rfl
theorem q4_121 : ((Jvm.Cond.soleField "PairedTumblersModel" "bracket")) ∈ lw_all := lw_in4 (List.mem_of_getElem? (i := 121) (by decide +kernel)) rfl
theorem q4_122 : ((Jvm.Cond.laysFinal "PairedTumblersModel" "PairedTumblersModel" "begin" "[I")) ∈ lw_all := lw_in4 (List.mem_of_getElem? (i := 122) (by decide +kernel)) rfl
theorem q4_123 : ((Jvm.Cond.soleField "PairedTumblersModel" "begin")) ∈ lw_all := lw_in4 (List.mem_of_getElem? (i := 123) (by decide +kernel)) rfl
theorem q4_124 : ((Jvm.Cond.laysFinal "PairedTumblersModel" "PairedTumblersModel" "middle" "[I")) ∈ lw_all := lw_in4 (List.mem_of_getElem? (i := 124) (by decide +kernel)) rfl
theorem q4_125 : ((Jvm.Cond.soleField "PairedTumblersModel" "middle")) ∈ lw_all := lw_in4 (List.mem_of_getElem? (i := 125) (by decide +kernel)) rfl
theorem q4_126 : ((Jvm.Cond.laysFinal "PairedTumblersModel" "PairedTumblersModel" "ahead" "[I")) ∈ lw_all := lw_in4 (List.mem_of_getElem? (i := 126) (by decide +kernel)) rfl
theorem q4_127 : ((Jvm.Cond.soleField "PairedTumblersModel" "ahead")) ∈ lw_all := lw_in4 (List.mem_of_getElem? (i := 127) (by decide +kernel)) rfl
theorem q4_128 : ((Jvm.Cond.laysFinal "PairedTumblersModel" "PairedTumblersModel" "part" "[I")) ∈ lw_all := lw_in4 (List.mem_of_getElem? (i := 128) (by decide +kernel)) rfl
theorem q4_129 : ((Jvm.Cond.soleField "PairedTumblersModel" "part")) ∈ lw_all := lw_in4 (List.mem_of_getElem? (i := 129) (by decide +kernel)) rfl
theorem q4_130 : ((Jvm.Cond.lays "PairedTumblersModel" "PairedTumblersModel" "open" "I")) ∈ lw_all := lw_in4 (List.mem_of_getElem? (i := 130) (by decide +kernel)) rfl
theorem q4_131 : ((Jvm.Cond.soleField "PairedTumblersModel" "open")) ∈ lw_all := lw_in4 (List.mem_of_getElem? (i := 131) (by decide +kernel)) rfl
theorem q4_132 : ((Jvm.Cond.lays "PairedTumblersModel" "PairedTumblersModel" "isFilled" "Z")) ∈ lw_all := lw_in4 (List.mem_of_getElem? (i := 132) (by decide +kernel)) rfl
theorem q4_133 : ((Jvm.Cond.soleField "PairedTumblersModel" "isFilled")) ∈ lw_all := lw_in4 (List.mem_of_getElem? (i := 133) (by decide +kernel)) rfl
theorem q4_134 : ((Jvm.Cond.lays "PairedTumblersModel" "PairedTumblersModel" "needsFigure" "Z")) ∈ lw_all := lw_in4 (List.mem_of_getElem? (i := 134) (by decide +kernel)) rfl
theorem q4_135 : ((Jvm.Cond.soleField "PairedTumblersModel" "needsFigure")) ∈ lw_all := lw_in4 (List.mem_of_getElem? (i := 135) (by decide +kernel)) rfl
theorem q4_136 : ((Jvm.Cond.superclass "PairedTumblersModel" "java/lang/Object")) ∈ lw_all := lw_in4 (List.mem_of_getElem? (i := 136) (by decide +kernel)) rfl
theorem q4_137 : (Cond.methodLink RL 74 yX6_thrown) ∈ lw_all := lw_in4 (List.mem_of_getElem? (i := 137) (by decide +kernel)) rfl
theorem q4_138 : (Cond.instanceMethod yX6_thrown) ∈ lw_all := lw_in4 (List.mem_of_getElem? (i := 138) (by decide +kernel)) rfl
theorem q4_139 : (Cond.selects RX6 yX6_thrown yX6_thrown) ∈ lw_all := lw_in4 (List.mem_of_getElem? (i := 139) (by decide +kernel)) rfl
theorem q4_140 : (Cond.code yX6_thrown cX6_thrown 1 (some .int)) ∈ lw_all := lw_in4 (List.mem_of_getElem? (i := 140) (by decide +kernel)) rfl
theorem q4_141 : (Cond.methodLink RL 119 yX6_undo) ∈ lw_all := lw_in4 (List.mem_of_getElem? (i := 141) (by decide +kernel)) rfl
theorem q4_142 : (Cond.instanceMethod yX6_undo) ∈ lw_all := lw_in4 (List.mem_of_getElem? (i := 142) (by decide +kernel)) rfl
theorem q4_143 : (Cond.selects RX6 yX6_undo yX6_undo) ∈ lw_all := lw_in4 (List.mem_of_getElem? (i := 143) (by decide +kernel)) rfl
theorem q4_144 : (Cond.code yX6_undo cX6_undo 2 (some .int)) ∈ lw_all := lw_in4 (List.mem_of_getElem? (i := 144) (by decide +kernel)) rfl
theorem q4_145 : (Cond.methodLink RL 113 yX6_keep) ∈ lw_all := lw_in4 (List.mem_of_getElem? (i := 145) (by decide +kernel)) rfl
theorem q4_146 : (Cond.instanceMethod yX6_keep) ∈ lw_all := lw_in4 (List.mem_of_getElem? (i := 146) (by decide +kernel)) rfl
theorem q4_147 : (Cond.selects RX6 yX6_keep yX6_keep) ∈ lw_all := lw_in4 (List.mem_of_getElem? (i := 147) (by decide +kernel)) rfl
theorem q4_148 : (Cond.code yX6_keep cX6_keep 2 (some .int)) ∈ lw_all := lw_in4 (List.mem_of_getElem? (i := 148) (by decide +kernel)) rfl
theorem q4_149 : (Cond.methodLink RL 116 yX6_goBack) ∈ lw_all := lw_in4 (List.mem_of_getElem? (i := 149) (by decide +kernel)) rfl
theorem q4_150 : (Cond.instanceMethod yX6_goBack) ∈ lw_all := lw_in4 (List.mem_of_getElem? (i := 150) (by decide +kernel)) rfl
theorem q4_151 : (Cond.selects RX6 yX6_goBack yX6_goBack) ∈ lw_all := lw_in4 (List.mem_of_getElem? (i := 151) (by decide +kernel)) rfl
theorem q4_152 : (Cond.code yX6_goBack cX6_goBack 2 (some .int)) ∈ lw_all := lw_in4 (List.mem_of_getElem? (i := 152) (by decide +kernel)) rfl
theorem q4_153 : (Cond.methodLink RX6 61 yX6_record) ∈ lw_all := lw_in4 (List.mem_of_getElem? (i := 153) (by decide +kernel)) rfl
theorem q4_155 : (Cond.instanceMethod yX6_record) ∈ lw_all := lw_in4 (List.mem_of_getElem? (i := 155) (by decide +kernel)) rfl
theorem q4_156 : (Cond.code yX6_record cX6_record 2 none) ∈ lw_all := lw_in4 (List.mem_of_getElem? (i := 156) (by decide +kernel)) rfl
theorem q4_157 : (Cond.methodLink RL 73 yX6_turn) ∈ lw_all := lw_in4 (List.mem_of_getElem? (i := 157) (by decide +kernel)) rfl
theorem q4_158 : (Cond.instanceMethod yX6_turn) ∈ lw_all := lw_in4 (List.mem_of_getElem? (i := 158) (by decide +kernel)) rfl
theorem q4_159 : (Cond.selects RX6 yX6_turn yX6_turn) ∈ lw_all := lw_in4 (List.mem_of_getElem? (i := 159) (by decide +kernel)) rfl
theorem q4_160 : (Cond.code yX6_turn cX6_turn 2 (some .int)) ∈ lw_all := lw_in4 (List.mem_of_getElem? (i := 160) (by decide +kernel)) rfl
theorem q4_161 : (Cond.methodLink RX6 101 yX6_turnNow) ∈ lw_all := lw_in4 (List.mem_of_getElem? (i := 161) (by decide +kernel)) rfl
theorem q4_163 : (Cond.instanceMethod yX6_turnNow) ∈ lw_all := lw_in4 (List.mem_of_getElem? (i := 163) (by decide +kernel)) rfl
theorem q4_164 : (Cond.code yX6_turnNow cX6_turnNow 3 (some .int)) ∈ lw_all := lw_in4 (List.mem_of_getElem? (i := 164) (by decide +kernel)) rfl
theorem q4_165 : (Cond.methodLink RX6 92 yX6_isKey) ∈ lw_all := lw_in4 (List.mem_of_getElem? (i := 165) (by decide +kernel)) rfl
theorem q4_166 : (Cond.static yX6_isKey) ∈ lw_all := lw_in4 (List.mem_of_getElem? (i := 166) (by decide +kernel)) rfl
theorem q4_167 : (Cond.code yX6_isKey cX6_isKey 1 (some .boolean)) ∈ lw_all := lw_in4 (List.mem_of_getElem? (i := 167) (by decide +kernel)) rfl
theorem q4_168 : (Cond.methodLink RX6 50 yX6_in) ∈ lw_all := lw_in4 (List.mem_of_getElem? (i := 168) (by decide +kernel)) rfl
theorem q4_169 : (Cond.static yX6_in) ∈ lw_all := lw_in4 (List.mem_of_getElem? (i := 169) (by decide +kernel)) rfl
theorem q4_170 : (Cond.code yX6_in cX6_in 3 (some .boolean)) ∈ lw_all := lw_in4 (List.mem_of_getElem? (i := 170) (by decide +kernel)) rfl
theorem q4_171 : (Cond.methodLink RX6 95 yX6_isStuck) ∈ lw_all := lw_in4 (List.mem_of_getElem? (i := 171) (by decide +kernel)) rfl
theorem q4_173 : (Cond.instanceMethod yX6_isStuck) ∈ lw_all := lw_in4 (List.mem_of_getElem? (i := 173) (by decide +kernel)) rfl
theorem q4_174 : (Cond.code yX6_isStuck cX6_isStuck 4 (some .boolean)) ∈ lw_all := lw_in4 (List.mem_of_getElem? (i := 174) (by decide +kernel)) rfl
theorem q4_175 : (Cond.methodLink RX6 64 yX6_has) ∈ lw_all := lw_in4 (List.mem_of_getElem? (i := 175) (by decide +kernel)) rfl
theorem q4_177 : (Cond.instanceMethod yX6_has) ∈ lw_all := lw_in4 (List.mem_of_getElem? (i := 177) (by decide +kernel)) rfl
theorem q4_178 : (Cond.code yX6_has cX6_has 3 (some .boolean)) ∈ lw_all := lw_in4 (List.mem_of_getElem? (i := 178) (by decide +kernel)) rfl
theorem q4_179 : (Cond.methodLink RX6 98 yX6_countTurn) ∈ lw_all := lw_in4 (List.mem_of_getElem? (i := 179) (by decide +kernel)) rfl
theorem q4_181 : (Cond.instanceMethod yX6_countTurn) ∈ lw_all := lw_in4 (List.mem_of_getElem? (i := 181) (by decide +kernel)) rfl
theorem q4_182 : (Cond.code yX6_countTurn cX6_countTurn 5 none) ∈ lw_all := lw_in4 (List.mem_of_getElem? (i := 182) (by decide +kernel)) rfl
theorem q4_183 : (Cond.methodLink RX6 80 yX6_opens) ∈ lw_all := lw_in4 (List.mem_of_getElem? (i := 183) (by decide +kernel)) rfl
theorem q4_185 : (Cond.instanceMethod yX6_opens) ∈ lw_all := lw_in4 (List.mem_of_getElem? (i := 185) (by decide +kernel)) rfl
theorem q4_186 : (Cond.code yX6_opens cX6_opens 1 (some .boolean)) ∈ lw_all := lw_in4 (List.mem_of_getElem? (i := 186) (by decide +kernel)) rfl
theorem q4_187 : (Cond.methodLink RX6 76 yX6_right) ∈ lw_all := lw_in4 (List.mem_of_getElem? (i := 187) (by decide +kernel)) rfl
theorem q4_189 : (Cond.instanceMethod yX6_right) ∈ lw_all := lw_in4 (List.mem_of_getElem? (i := 189) (by decide +kernel)) rfl
theorem q4_190 : (Cond.code yX6_right cX6_right 3 (some .int)) ∈ lw_all := lw_in4 (List.mem_of_getElem? (i := 190) (by decide +kernel)) rfl
theorem q4_191 : (Cond.methodLink RX6 72 yX6_isRight) ∈ lw_all := lw_in4 (List.mem_of_getElem? (i := 191) (by decide +kernel)) rfl
theorem q4_193 : (Cond.instanceMethod yX6_isRight) ∈ lw_all := lw_in4 (List.mem_of_getElem? (i := 193) (by decide +kernel)) rfl
theorem q4_194 : (Cond.code yX6_isRight cX6_isRight 2 (some .boolean)) ∈ lw_all := lw_in4 (List.mem_of_getElem? (i := 194) (by decide +kernel)) rfl
theorem q4_195 : (Cond.methodLink RX6 84 yX6_doTurn) ∈ lw_all := lw_in4 (List.mem_of_getElem? (i := 195) (by decide +kernel)) rfl
theorem q4_197 : (Cond.instanceMethod yX6_doTurn) ∈ lw_all := lw_in4 (List.mem_of_getElem? (i := 197) (by decide +kernel)) rfl
theorem q4_198 : (Cond.code yX6_doTurn cX6_doTurn 8 none) ∈ lw_all := lw_in4 (List.mem_of_getElem? (i := 198) (by decide +kernel)) rfl
theorem q4_199 : (Cond.methodLink RX6 68 yX6_next) ∈ lw_all := lw_in4 (List.mem_of_getElem? (i := 199) (by decide +kernel)) rfl
theorem q4_201 : (Cond.instanceMethod yX6_next) ∈ lw_all := lw_in4 (List.mem_of_getElem? (i := 201) (by decide +kernel)) rfl
theorem q4_202 : (Cond.code yX6_next cX6_next 4 (some .int)) ∈ lw_all := lw_in4 (List.mem_of_getElem? (i := 202) (by decide +kernel)) rfl
theorem q4_203 : (Cond.methodLink RX6 88 yX6_ones) ∈ lw_all := lw_in4 (List.mem_of_getElem? (i := 203) (by decide +kernel)) rfl
theorem q4_204 : (Cond.static yX6_ones) ∈ lw_all := lw_in4 (List.mem_of_getElem? (i := 204) (by decide +kernel)) rfl
theorem q4_205 : (Cond.code yX6_ones cX6_ones 3 (some .int)) ∈ lw_all := lw_in4 (List.mem_of_getElem? (i := 205) (by decide +kernel)) rfl
theorem q4_206 : (Cond.methodLink RL 79 yX6_back) ∈ lw_all := lw_in4 (List.mem_of_getElem? (i := 206) (by decide +kernel)) rfl
theorem q4_207 : (Cond.instanceMethod yX6_back) ∈ lw_all := lw_in4 (List.mem_of_getElem? (i := 207) (by decide +kernel)) rfl
theorem q4_208 : (Cond.selects RX6 yX6_back yX6_back) ∈ lw_all := lw_in4 (List.mem_of_getElem? (i := 208) (by decide +kernel)) rfl
theorem q4_209 : (Cond.code yX6_back cX6_back 2 (some .int)) ∈ lw_all := lw_in4 (List.mem_of_getElem? (i := 209) (by decide +kernel)) rfl
theorem q4_210 : (Cond.methodLink RL 83 yX6_word) ∈ lw_all := lw_in4 (List.mem_of_getElem? (i := 210) (by decide +kernel)) rfl
theorem q4_211 : (Cond.instanceMethod yX6_word) ∈ lw_all := lw_in4 (List.mem_of_getElem? (i := 211) (by decide +kernel)) rfl
theorem q4_212 : (Cond.selects RX6 yX6_word yX6_word) ∈ lw_all := lw_in4 (List.mem_of_getElem? (i := 212) (by decide +kernel)) rfl
theorem q4_213 : (Cond.code yX6_word cX6_word 2 (some .int)) ∈ lw_all := lw_in4 (List.mem_of_getElem? (i := 213) (by decide +kernel)) rfl
theorem q4_214 : (Cond.methodLink RX6 104 yX6_isWhole) ∈ lw_all := lw_in4 (List.mem_of_getElem? (i := 214) (by decide +kernel)) rfl
theorem q4_216 : (Cond.instanceMethod yX6_isWhole) ∈ lw_all := lw_in4 (List.mem_of_getElem? (i := 216) (by decide +kernel)) rfl
theorem q4_217 : (Cond.code yX6_isWhole cX6_isWhole 1 (some .boolean)) ∈ lw_all := lw_in4 (List.mem_of_getElem? (i := 217) (by decide +kernel)) rfl
theorem q4_218 : (Cond.methodLink RX6 143 yX6_findError) ∈ lw_all := lw_in4 (List.mem_of_getElem? (i := 218) (by decide +kernel)) rfl
theorem q4_220 : (Cond.instanceMethod yX6_findError) ∈ lw_all := lw_in4 (List.mem_of_getElem? (i := 220) (by decide +kernel)) rfl
theorem q4_221 : (Cond.code yX6_findError cX6_findError 2 (some .int)) ∈ lw_all := lw_in4 (List.mem_of_getElem? (i := 221) (by decide +kernel)) rfl
theorem q4_222 : (Cond.methodLink RX6 140 yX6_takeSign) ∈ lw_all := lw_in4 (List.mem_of_getElem? (i := 222) (by decide +kernel)) rfl
theorem q4_224 : (Cond.instanceMethod yX6_takeSign) ∈ lw_all := lw_in4 (List.mem_of_getElem? (i := 224) (by decide +kernel)) rfl
theorem q4_225 : (Cond.code yX6_takeSign cX6_takeSign 3 (some .boolean)) ∈ lw_all := lw_in4 (List.mem_of_getElem? (i := 225) (by decide +kernel)) rfl
theorem q4_226 : (Cond.methodLink RX6 107 yX6_readWord) ∈ lw_all := lw_in4 (List.mem_of_getElem? (i := 226) (by decide +kernel)) rfl
theorem q4_228 : (Cond.instanceMethod yX6_readWord) ∈ lw_all := lw_in4 (List.mem_of_getElem? (i := 228) (by decide +kernel)) rfl
theorem q4_229 : (Cond.code yX6_readWord cX6_readWord 5 (some .int)) ∈ lw_all := lw_in4 (List.mem_of_getElem? (i := 229) (by decide +kernel)) rfl
theorem q4_230 : (Cond.methodLink RX6 152 yX6_addAgain) ∈ lw_all := lw_in4 (List.mem_of_getElem? (i := 230) (by decide +kernel)) rfl
theorem q4_232 : (Cond.instanceMethod yX6_addAgain) ∈ lw_all := lw_in4 (List.mem_of_getElem? (i := 232) (by decide +kernel)) rfl
theorem q4_233 : (Cond.code yX6_addAgain cX6_addAgain 6 none) ∈ lw_all := lw_in4 (List.mem_of_getElem? (i := 233) (by decide +kernel)) rfl
theorem q4_234 : (Cond.methodLink RX6 149 yX6_addTurn) ∈ lw_all := lw_in4 (List.mem_of_getElem? (i := 234) (by decide +kernel)) rfl
theorem q4_236 : (Cond.instanceMethod yX6_addTurn) ∈ lw_all := lw_in4 (List.mem_of_getElem? (i := 236) (by decide +kernel)) rfl
theorem q4_237 : (Cond.code yX6_addTurn cX6_addTurn 2 none) ∈ lw_all := lw_in4 (List.mem_of_getElem? (i := 237) (by decide +kernel)) rfl
theorem q4_238 : (Cond.methodLink RL 87 yX6_home) ∈ lw_all := lw_in4 (List.mem_of_getElem? (i := 238) (by decide +kernel)) rfl
theorem q4_239 : (Cond.instanceMethod yX6_home) ∈ lw_all := lw_in4 (List.mem_of_getElem? (i := 239) (by decide +kernel)) rfl
theorem q5_0 : (Cond.selects RX6 yX6_home yX6_home) ∈ lw_all := lw_in5 (List.mem_of_getElem? (i := 0) (by decide +kernel)) rfl
theorem q5_1 : (Cond.code yX6_home cX6_home 2 (some .int)) ∈ lw_all := lw_in5 (List.mem_of_getElem? (i := 1) (by decide +kernel)) rfl
theorem q5_2 : (Cond.methodLink RX6 116 yX6_away) ∈ lw_all := lw_in5 (List.mem_of_getElem? (i := 2) (by decide +kernel)) rfl
theorem q5_4 : (Cond.instanceMethod yX6_away) ∈ lw_all := lw_in5 (List.mem_of_getElem? (i := 4) (by decide +kernel)) rfl
theorem q5_5 : (Cond.code yX6_away cX6_away 3 (some .int)) ∈ lw_all := lw_in5 (List.mem_of_getElem? (i := 5) (by decide +kernel)) rfl
theorem q5_6 : (Cond.methodLink RX6 119 yX6_toFirst) ∈ lw_all := lw_in5 (List.mem_of_getElem? (i := 6) (by decide +kernel)) rfl
theorem q5_8 : (Cond.instanceMethod yX6_toFirst) ∈ lw_all := lw_in5 (List.mem_of_getElem? (i := 8) (by decide +kernel)) rfl
theorem q5_9 : (Cond.code yX6_toFirst cX6_toFirst 2 none) ∈ lw_all := lw_in5 (List.mem_of_getElem? (i := 9) (by decide +kernel)) rfl
theorem q5_10 : (Cond.methodLink RL 91 yX6_cut) ∈ lw_all := lw_in5 (List.mem_of_getElem? (i := 10) (by decide +kernel)) rfl
theorem q5_11 : (Cond.instanceMethod yX6_cut) ∈ lw_all := lw_in5 (List.mem_of_getElem? (i := 11) (by decide +kernel)) rfl
theorem q5_12 : (Cond.selects RX6 yX6_cut yX6_cut) ∈ lw_all := lw_in5 (List.mem_of_getElem? (i := 12) (by decide +kernel)) rfl
theorem q5_13 : (Cond.code yX6_cut cX6_cut 6 (some .int)) ∈ lw_all := lw_in5 (List.mem_of_getElem? (i := 13) (by decide +kernel)) rfl
theorem q5_14 : (Cond.methodLink RL 94 yX6_stick) ∈ lw_all := lw_in5 (List.mem_of_getElem? (i := 14) (by decide +kernel)) rfl
theorem q5_15 : (Cond.instanceMethod yX6_stick) ∈ lw_all := lw_in5 (List.mem_of_getElem? (i := 15) (by decide +kernel)) rfl
theorem q5_16 : (Cond.selects RX6 yX6_stick yX6_stick) ∈ lw_all := lw_in5 (List.mem_of_getElem? (i := 16) (by decide +kernel)) rfl
theorem q5_17 : (Cond.code yX6_stick cX6_stick 2 (some .int)) ∈ lw_all := lw_in5 (List.mem_of_getElem? (i := 17) (by decide +kernel)) rfl
theorem q5_18 : (Cond.methodLink RX6 122 yX6_isPlace) ∈ lw_all := lw_in5 (List.mem_of_getElem? (i := 18) (by decide +kernel)) rfl
theorem q5_19 : (Cond.static yX6_isPlace) ∈ lw_all := lw_in5 (List.mem_of_getElem? (i := 19) (by decide +kernel)) rfl
theorem q5_20 : (Cond.code yX6_isPlace cX6_isPlace 1 (some .boolean)) ∈ lw_all := lw_in5 (List.mem_of_getElem? (i := 20) (by decide +kernel)) rfl
theorem q5_21 : (Cond.methodLink RX6 125 yX6_stuckKeys) ∈ lw_all := lw_in5 (List.mem_of_getElem? (i := 21) (by decide +kernel)) rfl
theorem q5_23 : (Cond.instanceMethod yX6_stuckKeys) ∈ lw_all := lw_in5 (List.mem_of_getElem? (i := 23) (by decide +kernel)) rfl
theorem q5_24 : (Cond.code yX6_stuckKeys cX6_stuckKeys 3 (some .int)) ∈ lw_all := lw_in5 (List.mem_of_getElem? (i := 24) (by decide +kernel)) rfl
theorem q5_25 : (Cond.methodLink RL 98 yX6_learn) ∈ lw_all := lw_in5 (List.mem_of_getElem? (i := 25) (by decide +kernel)) rfl
theorem q5_26 : (Cond.instanceMethod yX6_learn) ∈ lw_all := lw_in5 (List.mem_of_getElem? (i := 26) (by decide +kernel)) rfl
theorem q5_27 : (Cond.selects RX6 yX6_learn yX6_learn) ∈ lw_all := lw_in5 (List.mem_of_getElem? (i := 27) (by decide +kernel)) rfl
theorem q5_28 : (Cond.code yX6_learn cX6_learn 2 (some .int)) ∈ lw_all := lw_in5 (List.mem_of_getElem? (i := 28) (by decide +kernel)) rfl
theorem q5_29 : (Cond.methodLink RX6 128 yX6_notches) ∈ lw_all := lw_in5 (List.mem_of_getElem? (i := 29) (by decide +kernel)) rfl
theorem q5_31 : (Cond.instanceMethod yX6_notches) ∈ lw_all := lw_in5 (List.mem_of_getElem? (i := 31) (by decide +kernel)) rfl
theorem q5_32 : (Cond.code yX6_notches cX6_notches 3 (some .int)) ∈ lw_all := lw_in5 (List.mem_of_getElem? (i := 32) (by decide +kernel)) rfl
theorem q5_33 : (Cond.methodLink RL 101 yX6_append) ∈ lw_all := lw_in5 (List.mem_of_getElem? (i := 33) (by decide +kernel)) rfl
theorem q5_34 : (Cond.instanceMethod yX6_append) ∈ lw_all := lw_in5 (List.mem_of_getElem? (i := 34) (by decide +kernel)) rfl
theorem q5_35 : (Cond.selects RX6 yX6_append yX6_append) ∈ lw_all := lw_in5 (List.mem_of_getElem? (i := 35) (by decide +kernel)) rfl
theorem q5_36 : (Cond.code yX6_append cX6_append 2 (some .int)) ∈ lw_all := lw_in5 (List.mem_of_getElem? (i := 36) (by decide +kernel)) rfl
theorem q5_37 : (Cond.methodLink RL 105 yX6_clearBuffer) ∈ lw_all := lw_in5 (List.mem_of_getElem? (i := 37) (by decide +kernel)) rfl
theorem q5_38 : (Cond.instanceMethod yX6_clearBuffer) ∈ lw_all := lw_in5 (List.mem_of_getElem? (i := 38) (by decide +kernel)) rfl
theorem q5_39 : (Cond.selects RX6 yX6_clearBuffer yX6_clearBuffer) ∈ lw_all := lw_in5 (List.mem_of_getElem? (i := 39) (by decide +kernel)) rfl
theorem q5_40 : (Cond.code yX6_clearBuffer cX6_clearBuffer 2 (some .int)) ∈ lw_all := lw_in5 (List.mem_of_getElem? (i := 40) (by decide +kernel)) rfl
theorem q5_41 : (Cond.methodLink RL 109 yX6_firstError) ∈ lw_all := lw_in5 (List.mem_of_getElem? (i := 41) (by decide +kernel)) rfl
theorem q5_42 : (Cond.instanceMethod yX6_firstError) ∈ lw_all := lw_in5 (List.mem_of_getElem? (i := 42) (by decide +kernel)) rfl
theorem q5_43 : (Cond.selects RX6 yX6_firstError yX6_firstError) ∈ lw_all := lw_in5 (List.mem_of_getElem? (i := 43) (by decide +kernel)) rfl
theorem q5_44 : (Cond.code yX6_firstError cX6_firstError 1 (some .int)) ∈ lw_all := lw_in5 (List.mem_of_getElem? (i := 44) (by decide +kernel)) rfl
theorem q5_45 : (Cond.methodLink RL 123 yX6_at) ∈ lw_all := lw_in5 (List.mem_of_getElem? (i := 45) (by decide +kernel)) rfl
theorem q5_46 : (Cond.instanceMethod yX6_at) ∈ lw_all := lw_in5 (List.mem_of_getElem? (i := 46) (by decide +kernel)) rfl
theorem q5_47 : (Cond.selects RX6 yX6_at yX6_at) ∈ lw_all := lw_in5 (List.mem_of_getElem? (i := 47) (by decide +kernel)) rfl
theorem q5_48 : (Cond.code yX6_at cX6_at 3 (some .int)) ∈ lw_all := lw_in5 (List.mem_of_getElem? (i := 48) (by decide +kernel)) rfl
theorem q5_49 : (Cond.methodLink RX6 159 yX6_atNow) ∈ lw_all := lw_in5 (List.mem_of_getElem? (i := 49) (by decide +kernel)) rfl
theorem q5_51 : (Cond.instanceMethod yX6_atNow) ∈ lw_all := lw_in5 (List.mem_of_getElem? (i := 51) (by decide +kernel)) rfl
theorem q5_52 : (Cond.code yX6_atNow cX6_atNow 3 (some .int)) ∈ lw_all := lw_in5 (List.mem_of_getElem? (i := 52) (by decide +kernel)) rfl
theorem q5_53 : (Cond.methodLink RX6 156 yX6_keysAt) ∈ lw_all := lw_in5 (List.mem_of_getElem? (i := 53) (by decide +kernel)) rfl
theorem q5_55 : (Cond.instanceMethod yX6_keysAt) ∈ lw_all := lw_in5 (List.mem_of_getElem? (i := 55) (by decide +kernel)) rfl
theorem q5_56 : (Cond.code yX6_keysAt cX6_keysAt 4 (some .int)) ∈ lw_all := lw_in5 (List.mem_of_getElem? (i := 56) (by decide +kernel)) rfl
theorem q5_57 : (Cond.methodLink RL 126 yX6_key) ∈ lw_all := lw_in5 (List.mem_of_getElem? (i := 57) (by decide +kernel)) rfl
theorem q5_58 : (Cond.instanceMethod yX6_key) ∈ lw_all := lw_in5 (List.mem_of_getElem? (i := 58) (by decide +kernel)) rfl
theorem q5_59 : (Cond.selects RX6 yX6_key yX6_key) ∈ lw_all := lw_in5 (List.mem_of_getElem? (i := 59) (by decide +kernel)) rfl
theorem q5_60 : (Cond.code yX6_key cX6_key 3 (some .int)) ∈ lw_all := lw_in5 (List.mem_of_getElem? (i := 60) (by decide +kernel)) rfl
theorem q5_61 : (Cond.methodLink RX6 177 yX6_keyNow) ∈ lw_all := lw_in5 (List.mem_of_getElem? (i := 61) (by decide +kernel)) rfl
theorem q5_63 : (Cond.instanceMethod yX6_keyNow) ∈ lw_all := lw_in5 (List.mem_of_getElem? (i := 63) (by decide +kernel)) rfl
theorem q5_64 : (Cond.code yX6_keyNow cX6_keyNow 3 (some .int)) ∈ lw_all := lw_in5 (List.mem_of_getElem? (i := 64) (by decide +kernel)) rfl
theorem q5_65 : (Cond.methodLink RX6 174 yX6_keyPeriod) ∈ lw_all := lw_in5 (List.mem_of_getElem? (i := 65) (by decide +kernel)) rfl
theorem q5_67 : (Cond.instanceMethod yX6_keyPeriod) ∈ lw_all := lw_in5 (List.mem_of_getElem? (i := 67) (by decide +kernel)) rfl
theorem q5_68 : (Cond.code yX6_keyPeriod cX6_keyPeriod 3 (some .int)) ∈ lw_all := lw_in5 (List.mem_of_getElem? (i := 68) (by decide +kernel)) rfl
theorem q5_69 : (Cond.methodLink RX6 165 yX6_putAside) ∈ lw_all := lw_in5 (List.mem_of_getElem? (i := 69) (by decide +kernel)) rfl
theorem q5_71 : (Cond.instanceMethod yX6_putAside) ∈ lw_all := lw_in5 (List.mem_of_getElem? (i := 71) (by decide +kernel)) rfl
theorem q5_72 : (Cond.code yX6_putAside cX6_putAside 2 none) ∈ lw_all := lw_in5 (List.mem_of_getElem? (i := 72) (by decide +kernel)) rfl
theorem q5_73 : (Cond.methodLink RX6 168 yX6_period) ∈ lw_all := lw_in5 (List.mem_of_getElem? (i := 73) (by decide +kernel)) rfl
theorem q5_75 : (Cond.instanceMethod yX6_period) ∈ lw_all := lw_in5 (List.mem_of_getElem? (i := 75) (by decide +kernel)) rfl
theorem q5_76 : (Cond.code yX6_period cX6_period 8 (some .int)) ∈ lw_all := lw_in5 (List.mem_of_getElem? (i := 76) (by decide +kernel)) rfl
theorem q5_77 : (Cond.methodLink RX6 162 yX6_common) ∈ lw_all := lw_in5 (List.mem_of_getElem? (i := 77) (by decide +kernel)) rfl
theorem q5_78 : (Cond.static yX6_common) ∈ lw_all := lw_in5 (List.mem_of_getElem? (i := 78) (by decide +kernel)) rfl
theorem q5_79 : (Cond.code yX6_common cX6_common 5 (some .int)) ∈ lw_all := lw_in5 (List.mem_of_getElem? (i := 79) (by decide +kernel)) rfl
theorem q5_80 : (Cond.methodLink RX6 171 yX6_putBack) ∈ lw_all := lw_in5 (List.mem_of_getElem? (i := 80) (by decide +kernel)) rfl
theorem q5_82 : (Cond.instanceMethod yX6_putBack) ∈ lw_all := lw_in5 (List.mem_of_getElem? (i := 82) (by decide +kernel)) rfl
theorem q5_83 : (Cond.code yX6_putBack cX6_putBack 2 none) ∈ lw_all := lw_in5 (List.mem_of_getElem? (i := 83) (by decide +kernel)) rfl
theorem q5_84 : (Cond.methodLink RL 129 yX6_pair) ∈ lw_all := lw_in5 (List.mem_of_getElem? (i := 84) (by decide +kernel)) rfl
theorem q5_85 : (Cond.instanceMethod yX6_pair) ∈ lw_all := lw_in5 (List.mem_of_getElem? (i := 85) (by decide +kernel)) rfl
theorem q5_86 : (Cond.selects RX6 yX6_pair yX6_pair) ∈ lw_all := lw_in5 (List.mem_of_getElem? (i := 86) (by decide +kernel)) rfl
theorem q5_87 : (Cond.code yX6_pair cX6_pair 4 (some .int)) ∈ lw_all := lw_in5 (List.mem_of_getElem? (i := 87) (by decide +kernel)) rfl
theorem q5_88 : (Cond.methodLink RX6 183 yX6_pairNow) ∈ lw_all := lw_in5 (List.mem_of_getElem? (i := 88) (by decide +kernel)) rfl
theorem q5_90 : (Cond.instanceMethod yX6_pairNow) ∈ lw_all := lw_in5 (List.mem_of_getElem? (i := 90) (by decide +kernel)) rfl
theorem q5_91 : (Cond.code yX6_pairNow cX6_pairNow 6 (some .int)) ∈ lw_all := lw_in5 (List.mem_of_getElem? (i := 91) (by decide +kernel)) rfl
theorem q5_92 : (Cond.methodLink RX6 180 yX6_reach) ∈ lw_all := lw_in5 (List.mem_of_getElem? (i := 92) (by decide +kernel)) rfl
theorem q5_94 : (Cond.instanceMethod yX6_reach) ∈ lw_all := lw_in5 (List.mem_of_getElem? (i := 94) (by decide +kernel)) rfl
theorem q5_95 : (Cond.code yX6_reach cX6_reach 3 (some .int)) ∈ lw_all := lw_in5 (List.mem_of_getElem? (i := 95) (by decide +kernel)) rfl
theorem q5_96 : (Cond.methodLink RL 132 yX6_ofWord) ∈ lw_all := lw_in5 (List.mem_of_getElem? (i := 96) (by decide +kernel)) rfl
theorem q5_97 : (Cond.instanceMethod yX6_ofWord) ∈ lw_all := lw_in5 (List.mem_of_getElem? (i := 97) (by decide +kernel)) rfl
theorem q5_98 : (Cond.selects RX6 yX6_ofWord yX6_ofWord) ∈ lw_all := lw_in5 (List.mem_of_getElem? (i := 98) (by decide +kernel)) rfl
theorem q5_99 : (Cond.code yX6_ofWord cX6_ofWord 2 (some .int)) ∈ lw_all := lw_in5 (List.mem_of_getElem? (i := 99) (by decide +kernel)) rfl
theorem q5_100 : (Cond.methodLink RX6 190 yX6_wordNow) ∈ lw_all := lw_in5 (List.mem_of_getElem? (i := 100) (by decide +kernel)) rfl
theorem q5_102 : (Cond.instanceMethod yX6_wordNow) ∈ lw_all := lw_in5 (List.mem_of_getElem? (i := 102) (by decide +kernel)) rfl
theorem q5_103 : (Cond.code yX6_wordNow cX6_wordNow 3 (some .int)) ∈ lw_all := lw_in5 (List.mem_of_getElem? (i := 103) (by decide +kernel)) rfl
theorem q5_104 : (Cond.methodLink RX6 187 yX6_countTurns) ∈ lw_all := lw_in5 (List.mem_of_getElem? (i := 104) (by decide +kernel)) rfl
theorem q5_106 : (Cond.instanceMethod yX6_countTurns) ∈ lw_all := lw_in5 (List.mem_of_getElem? (i := 106) (by decide +kernel)) rfl
theorem q5_107 : (Cond.code yX6_countTurns cX6_countTurns 4 (some .int)) ∈ lw_all := lw_in5 (List.mem_of_getElem? (i := 107) (by decide +kernel)) rfl
theorem q5_108 : (Cond.methodLink RL 135 yX6_count) ∈ lw_all := lw_in5 (List.mem_of_getElem? (i := 108) (by decide +kernel)) rfl
theorem q5_109 : (Cond.instanceMethod yX6_count) ∈ lw_all := lw_in5 (List.mem_of_getElem? (i := 109) (by decide +kernel)) rfl
theorem q5_110 : (Cond.selects RX6 yX6_count yX6_count) ∈ lw_all := lw_in5 (List.mem_of_getElem? (i := 110) (by decide +kernel)) rfl
theorem q5_111 : (Cond.code yX6_count cX6_count 2 (some .int)) ∈ lw_all := lw_in5 (List.mem_of_getElem? (i := 111) (by decide +kernel)) rfl
theorem q5_112 : (Cond.methodLink RX6 196 yX6_countNow) ∈ lw_all := lw_in5 (List.mem_of_getElem? (i := 112) (by decide +kernel)) rfl
theorem q5_114 : (Cond.instanceMethod yX6_countNow) ∈ lw_all := lw_in5 (List.mem_of_getElem? (i := 114) (by decide +kernel)) rfl
theorem q5_115 : (Cond.code yX6_countNow cX6_countNow 2 (some .int)) ∈ lw_all := lw_in5 (List.mem_of_getElem? (i := 115) (by decide +kernel)) rfl
theorem q5_116 : (Cond.methodLink RX6 193 yX6_stuckPlaces) ∈ lw_all := lw_in5 (List.mem_of_getElem? (i := 116) (by decide +kernel)) rfl
theorem q5_118 : (Cond.instanceMethod yX6_stuckPlaces) ∈ lw_all := lw_in5 (List.mem_of_getElem? (i := 118) (by decide +kernel)) rfl
theorem q5_119 : (Cond.code yX6_stuckPlaces cX6_stuckPlaces 3 (some .int)) ∈ lw_all := lw_in5 (List.mem_of_getElem? (i := 119) (by decide +kernel)) rfl
theorem q5_120 : (Cond.methodLink RL 138 yX6_openIn) ∈ lw_all := lw_in5 (List.mem_of_getElem? (i := 120) (by decide +kernel)) rfl
theorem q5_121 : (Cond.instanceMethod yX6_openIn) ∈ lw_all := lw_in5 (List.mem_of_getElem? (i := 121) (by decide +kernel)) rfl
theorem q5_122 : (Cond.selects RX6 yX6_openIn yX6_openIn) ∈ lw_all := lw_in5 (List.mem_of_getElem? (i := 122) (by decide +kernel)) rfl
theorem q5_123 : (Cond.code yX6_openIn cX6_openIn 2 (some .int)) ∈ lw_all := lw_in5 (List.mem_of_getElem? (i := 123) (by decide +kernel)) rfl
theorem q5_124 : (Cond.methodLink RX6 205 yX6_findOpen) ∈ lw_all := lw_in5 (List.mem_of_getElem? (i := 124) (by decide +kernel)) rfl
theorem q5_126 : (Cond.instanceMethod yX6_findOpen) ∈ lw_all := lw_in5 (List.mem_of_getElem? (i := 126) (by decide +kernel)) rfl
theorem q5_127 : (Cond.code yX6_findOpen cX6_findOpen 4 (some .int)) ∈ lw_all := lw_in5 (List.mem_of_getElem? (i := 127) (by decide +kernel)) rfl
theorem q5_128 : (Cond.methodLink RX6 199 yX6_power) ∈ lw_all := lw_in5 (List.mem_of_getElem? (i := 128) (by decide +kernel)) rfl
theorem q5_129 : (Cond.static yX6_power) ∈ lw_all := lw_in5 (List.mem_of_getElem? (i := 129) (by decide +kernel)) rfl
theorem q5_130 : (Cond.code yX6_power cX6_power 3 (some .int)) ∈ lw_all := lw_in5 (List.mem_of_getElem? (i := 130) (by decide +kernel)) rfl
theorem q5_131 : (Cond.methodLink RX6 202 yX6_opensBy) ∈ lw_all := lw_in5 (List.mem_of_getElem? (i := 131) (by decide +kernel)) rfl
theorem q5_133 : (Cond.instanceMethod yX6_opensBy) ∈ lw_all := lw_in5 (List.mem_of_getElem? (i := 133) (by decide +kernel)) rfl
theorem q5_134 : (Cond.code yX6_opensBy cX6_opensBy 7 (some .boolean)) ∈ lw_all := lw_in5 (List.mem_of_getElem? (i := 134) (by decide +kernel)) rfl
theorem q5_135 : (Cond.methodLink RL 141 yX6_ifTurned) ∈ lw_all := lw_in5 (List.mem_of_getElem? (i := 135) (by decide +kernel)) rfl
theorem q5_136 : (Cond.instanceMethod yX6_ifTurned) ∈ lw_all := lw_in5 (List.mem_of_getElem? (i := 136) (by decide +kernel)) rfl
theorem q5_137 : (Cond.selects RX6 yX6_ifTurned yX6_ifTurned) ∈ lw_all := lw_in5 (List.mem_of_getElem? (i := 137) (by decide +kernel)) rfl
theorem q5_138 : (Cond.code yX6_ifTurned cX6_ifTurned 3 (some .int)) ∈ lw_all := lw_in5 (List.mem_of_getElem? (i := 138) (by decide +kernel)) rfl
theorem q5_139 : (Cond.methodLink RX6 208 yX6_rightIf) ∈ lw_all := lw_in5 (List.mem_of_getElem? (i := 139) (by decide +kernel)) rfl
theorem q5_141 : (Cond.instanceMethod yX6_rightIf) ∈ lw_all := lw_in5 (List.mem_of_getElem? (i := 141) (by decide +kernel)) rfl
theorem q5_142 : (Cond.code yX6_rightIf cX6_rightIf 4 (some .int)) ∈ lw_all := lw_in5 (List.mem_of_getElem? (i := 142) (by decide +kernel)) rfl
theorem q5_143 : (Cond.methodLink RL 145 yX6_closest) ∈ lw_all := lw_in5 (List.mem_of_getElem? (i := 143) (by decide +kernel)) rfl
theorem q5_144 : (Cond.instanceMethod yX6_closest) ∈ lw_all := lw_in5 (List.mem_of_getElem? (i := 144) (by decide +kernel)) rfl
theorem q5_145 : (Cond.selects RX6 yX6_closest yX6_closest) ∈ lw_all := lw_in5 (List.mem_of_getElem? (i := 145) (by decide +kernel)) rfl
theorem q5_146 : (Cond.code yX6_closest cX6_closest 1 (some .int)) ∈ lw_all := lw_in5 (List.mem_of_getElem? (i := 146) (by decide +kernel)) rfl
theorem q5_147 : (Cond.methodLink RX6 211 yX6_findClosest) ∈ lw_all := lw_in5 (List.mem_of_getElem? (i := 147) (by decide +kernel)) rfl
theorem q5_149 : (Cond.instanceMethod yX6_findClosest) ∈ lw_all := lw_in5 (List.mem_of_getElem? (i := 149) (by decide +kernel)) rfl
theorem q5_150 : (Cond.code yX6_findClosest cX6_findClosest 6 (some .int)) ∈ lw_all := lw_in5 (List.mem_of_getElem? (i := 150) (by decide +kernel)) rfl
theorem q5_151 : (Cond.methodLink RL 150 yX6_openShare) ∈ lw_all := lw_in5 (List.mem_of_getElem? (i := 151) (by decide +kernel)) rfl
theorem q5_152 : (Cond.instanceMethod yX6_openShare) ∈ lw_all := lw_in5 (List.mem_of_getElem? (i := 152) (by decide +kernel)) rfl
theorem q5_153 : (Cond.selects RX6 yX6_openShare yX6_openShare) ∈ lw_all := lw_in5 (List.mem_of_getElem? (i := 153) (by decide +kernel)) rfl
theorem q5_154 : (Cond.code yX6_openShare cX6_openShare 1 (some .double)) ∈ lw_all := lw_in5 (List.mem_of_getElem? (i := 154) (by decide +kernel)) rfl
theorem q5_155 : ((Jvm.Cond.constantDouble "PairedTumblersModel" (214 : Nat) (4618441417868443648 : UInt64))) ∈ lw_all := lw_in5 (List.mem_of_getElem? (i := 155) (by decide +kernel)) rfl
theorem q5_156 : (Cond.methodLink RL 155 yX6_meanNotch) ∈ lw_all := lw_in5 (List.mem_of_getElem? (i := 156) (by decide +kernel)) rfl
theorem q5_157 : (Cond.instanceMethod yX6_meanNotch) ∈ lw_all := lw_in5 (List.mem_of_getElem? (i := 157) (by decide +kernel)) rfl
theorem q5_158 : (Cond.selects RX6 yX6_meanNotch yX6_meanNotch) ∈ lw_all := lw_in5 (List.mem_of_getElem? (i := 158) (by decide +kernel)) rfl
theorem q5_159 : (Cond.code yX6_meanNotch cX6_meanNotch 1 (some .float)) ∈ lw_all := lw_in5 (List.mem_of_getElem? (i := 159) (by decide +kernel)) rfl
theorem q5_160 : ((Jvm.Cond.constantFloat "PairedTumblersModel" (216 : Nat) (1086324736 : UInt32))) ∈ lw_all := lw_in5 (List.mem_of_getElem? (i := 160) (by decide +kernel)) rfl
theorem q5_161 : (Cond.methodLink RL 160 yX6_digest) ∈ lw_all := lw_in5 (List.mem_of_getElem? (i := 161) (by decide +kernel)) rfl
theorem q5_162 : (Cond.instanceMethod yX6_digest) ∈ lw_all := lw_in5 (List.mem_of_getElem? (i := 162) (by decide +kernel)) rfl
theorem q5_163 : (Cond.selects RX6 yX6_digest yX6_digest) ∈ lw_all := lw_in5 (List.mem_of_getElem? (i := 163) (by decide +kernel)) rfl
theorem q5_164 : (Cond.code yX6_digest cX6_digest 5 (some .long)) ∈ lw_all := lw_in5 (List.mem_of_getElem? (i := 164) (by decide +kernel)) rfl
theorem q5_165 : ((Jvm.Cond.constantLong "PairedTumblersModel" (217 : Nat) (3769 : Int64))) ∈ lw_all := lw_in5 (List.mem_of_getElem? (i := 165) (by decide +kernel)) rfl
theorem q5_166 : ((Jvm.Cond.constantLong "PairedTumblersModel" (219 : Nat) (31 : Int64))) ∈ lw_all := lw_in5 (List.mem_of_getElem? (i := 166) (by decide +kernel)) rfl
theorem q5_167 : (Cond.methodLink RX6 221 yJxe99ae_doubleToLongBits_ccdee) ∈ lw_all := lw_in5 (List.mem_of_getElem? (i := 167) (by decide +kernel)) rfl
theorem q5_168 : (Cond.static yJxe99ae_doubleToLongBits_ccdee) ∈ lw_all := lw_in5 (List.mem_of_getElem? (i := 168) (by decide +kernel)) rfl
theorem q5_169 : (Cond.code yJxe99ae_doubleToLongBits_ccdee cJxe99ae_doubleToLongBits_ccdee 2 (some .long)) ∈ lw_all := lw_in5 (List.mem_of_getElem? (i := 169) (by decide +kernel)) rfl
theorem q5_170 : (Cond.methodLink RJxe99ae 122 yJxe99ae_isNaN_b9ae7) ∈ lw_all := lw_in5 (List.mem_of_getElem? (i := 170) (by decide +kernel)) rfl
theorem q5_171 : (Cond.static yJxe99ae_isNaN_b9ae7) ∈ lw_all := lw_in5 (List.mem_of_getElem? (i := 171) (by decide +kernel)) rfl
theorem q5_172 : (Cond.code yJxe99ae_isNaN_b9ae7 cJxe99ae_isNaN_b9ae7 2 (some .boolean)) ∈ lw_all := lw_in5 (List.mem_of_getElem? (i := 172) (by decide +kernel)) rfl
theorem q5_173 : (Cond.methodLink RJxe99ae 134 ⟨"java/lang/Double", "doubleToRawLongBits", "(D)J"⟩) ∈ lw_all := lw_in5 (List.mem_of_getElem? (i := 173) (by decide +kernel)) rfl
theorem q5_174 : (Cond.static ⟨"java/lang/Double", "doubleToRawLongBits", "(D)J"⟩) ∈ lw_all := lw_in5 (List.mem_of_getElem? (i := 174) (by decide +kernel)) rfl
theorem q5_175 : (Cond.native ⟨"java/lang/Double", "doubleToRawLongBits", "(D)J"⟩) ∈ lw_all := lw_in5 (List.mem_of_getElem? (i := 175) (by decide +kernel)) rfl
theorem q5_176 : ((Jvm.Cond.constantLong "java/lang/Double" (137 : Nat) (9221120237041090560 : Int64))) ∈ lw_all := lw_in5 (List.mem_of_getElem? (i := 176) (by decide +kernel)) rfl
theorem q5_177 : (Cond.methodLink RX6 227 yJxf58ca_floatToIntBits_5c35a) ∈ lw_all := lw_in5 (List.mem_of_getElem? (i := 177) (by decide +kernel)) rfl
theorem q5_178 : (Cond.static yJxf58ca_floatToIntBits_5c35a) ∈ lw_all := lw_in5 (List.mem_of_getElem? (i := 178) (by decide +kernel)) rfl
theorem q5_179 : (Cond.code yJxf58ca_floatToIntBits_5c35a cJxf58ca_floatToIntBits_5c35a 1 (some .int)) ∈ lw_all := lw_in5 (List.mem_of_getElem? (i := 179) (by decide +kernel)) rfl
theorem q5_180 : (Cond.methodLink RJxf58ca 59 yJxf58ca_isNaN_12338) ∈ lw_all := lw_in5 (List.mem_of_getElem? (i := 180) (by decide +kernel)) rfl
theorem q5_181 : (Cond.static yJxf58ca_isNaN_12338) ∈ lw_all := lw_in5 (List.mem_of_getElem? (i := 181) (by decide +kernel)) rfl
theorem q5_182 : (Cond.code yJxf58ca_isNaN_12338 cJxf58ca_isNaN_12338 1 (some .boolean)) ∈ lw_all := lw_in5 (List.mem_of_getElem? (i := 182) (by decide +kernel)) rfl
theorem q5_183 : (Cond.methodLink RJxf58ca 74 ⟨"java/lang/Float", "floatToRawIntBits", "(F)I"⟩) ∈ lw_all := lw_in5 (List.mem_of_getElem? (i := 183) (by decide +kernel)) rfl
theorem q5_184 : (Cond.static ⟨"java/lang/Float", "floatToRawIntBits", "(F)I"⟩) ∈ lw_all := lw_in5 (List.mem_of_getElem? (i := 184) (by decide +kernel)) rfl
theorem q5_185 : (Cond.native ⟨"java/lang/Float", "floatToRawIntBits", "(F)I"⟩) ∈ lw_all := lw_in5 (List.mem_of_getElem? (i := 185) (by decide +kernel)) rfl
theorem q5_186 : ((Jvm.Cond.constant "java/lang/Float" (77 : Nat) (2143289344 : Int32))) ∈ lw_all := lw_in5 (List.mem_of_getElem? (i := 186) (by decide +kernel)) rfl
theorem q5_187 : ((Jvm.Cond.arrayClass Jvm.ClassFile.FieldType.long)) ∈ lw_all := lw_in5 (List.mem_of_getElem? (i := 187) (by decide +kernel)) rfl
theorem q5_188 : ((Jvm.Cond.sameMethod "java/lang/Throwable" "java/lang/Throwable" "fillInStackTrace" "(I)Ljava/lang/Throwable;")) ∈ lw_all := lw_in5 (List.mem_of_getElem? (i := 188) (by decide +kernel)) rfl
end
section
theorem dX0_init_0 : decode cX0_init 0 = .ok (.aload_n 0, 1) := by decide +kernel
theorem dX0_init_1 : decode cX0_init 1 = .ok (.invokespecial 3, 3) := by decide +kernel
theorem dX0_init_4 : decode cX0_init 4 = .ok (.aload_n 0, 1) := by decide +kernel
theorem dX0_init_5 : decode cX0_init 5 = .ok (.bipush 6, 2) := by decide +kernel
theorem dX0_init_7 : decode cX0_init 7 = .ok (.newarray .int, 2) := by decide +kernel
theorem dX0_init_9 : decode cX0_init 9 = .ok (.putfield 9, 3) := by decide +kernel
theorem dX0_init_12 : decode cX0_init 12 = .ok (.aload_n 0, 1) := by decide +kernel
theorem dX0_init_13 : decode cX0_init 13 = .ok (.bipush 6, 2) := by decide +kernel
theorem dX0_init_15 : decode cX0_init 15 = .ok (.newarray .int, 2) := by decide +kernel
theorem dX0_init_17 : decode cX0_init 17 = .ok (.putfield 15, 3) := by decide +kernel
theorem dX0_init_20 : decode cX0_init 20 = .ok (.iconst 0, 1) := by decide +kernel
theorem dX0_init_21 : decode cX0_init 21 = .ok (.istore_n 1, 1) := by decide +kernel
theorem dX0_init_22 : decode cX0_init 22 = .ok (.iload_n 1, 1) := by decide +kernel
theorem dX0_init_23 : decode cX0_init 23 = .ok (.bipush 6, 2) := by decide +kernel
theorem dX0_init_25 : decode cX0_init 25 = .ok (.if_icmp .ge 16, 3) := by decide +kernel
theorem dX0_init_28 : decode cX0_init 28 = .ok (.aload_n 0, 1) := by decide +kernel
theorem dX0_init_29 : decode cX0_init 29 = .ok (.getfield 9, 3) := by decide +kernel
theorem dX0_init_32 : decode cX0_init 32 = .ok (.iload_n 1, 1) := by decide +kernel
theorem dX0_init_33 : decode cX0_init 33 = .ok (.iload_n 1, 1) := by decide +kernel
theorem dX0_init_34 : decode cX0_init 34 = .ok (.iastore, 1) := by decide +kernel
theorem dX0_init_35 : decode cX0_init 35 = .ok (.iinc 1 1, 3) := by decide +kernel
theorem dX0_init_38 : decode cX0_init 38 = .ok (.goto (-16), 3) := by decide +kernel
theorem dX0_init_41 : decode cX0_init 41 = .ok (.return_, 1) := by decide +kernel
theorem dX0_discAt_0 : decode cX0_discAt 0 = .ok (.iload_n 1, 1) := by decide +kernel
theorem dX0_discAt_1 : decode cX0_discAt 1 = .ok (.ifCond .lt 18, 3) := by decide +kernel
theorem dX0_discAt_4 : decode cX0_discAt 4 = .ok (.iload_n 1, 1) := by decide +kernel
theorem dX0_discAt_5 : decode cX0_discAt 5 = .ok (.bipush 6, 2) := by decide +kernel
theorem dX0_discAt_7 : decode cX0_discAt 7 = .ok (.if_icmp .ge 12, 3) := by decide +kernel
theorem dX0_discAt_10 : decode cX0_discAt 10 = .ok (.aload_n 0, 1) := by decide +kernel
theorem dX0_discAt_11 : decode cX0_discAt 11 = .ok (.getfield 9, 3) := by decide +kernel
theorem dX0_discAt_14 : decode cX0_discAt 14 = .ok (.iload_n 1, 1) := by decide +kernel
theorem dX0_discAt_15 : decode cX0_discAt 15 = .ok (.iaload, 1) := by decide +kernel
theorem dX0_discAt_16 : decode cX0_discAt 16 = .ok (.goto 4, 3) := by decide +kernel
theorem dX0_discAt_19 : decode cX0_discAt 19 = .ok (.iconst (-1), 1) := by decide +kernel
theorem dX0_discAt_20 : decode cX0_discAt 20 = .ok (.ireturn, 1) := by decide +kernel
theorem dX0_notchAt_0 : decode cX0_notchAt 0 = .ok (.iload_n 1, 1) := by decide +kernel
theorem dX0_notchAt_1 : decode cX0_notchAt 1 = .ok (.ifCond .lt 18, 3) := by decide +kernel
theorem dX0_notchAt_4 : decode cX0_notchAt 4 = .ok (.iload_n 1, 1) := by decide +kernel
theorem dX0_notchAt_5 : decode cX0_notchAt 5 = .ok (.bipush 6, 2) := by decide +kernel
theorem dX0_notchAt_7 : decode cX0_notchAt 7 = .ok (.if_icmp .ge 12, 3) := by decide +kernel
theorem dX0_notchAt_10 : decode cX0_notchAt 10 = .ok (.aload_n 0, 1) := by decide +kernel
theorem dX0_notchAt_11 : decode cX0_notchAt 11 = .ok (.getfield 15, 3) := by decide +kernel
theorem dX0_notchAt_14 : decode cX0_notchAt 14 = .ok (.iload_n 1, 1) := by decide +kernel
theorem dX0_notchAt_15 : decode cX0_notchAt 15 = .ok (.iaload, 1) := by decide +kernel
theorem dX0_notchAt_16 : decode cX0_notchAt 16 = .ok (.goto 4, 3) := by decide +kernel
theorem dX0_notchAt_19 : decode cX0_notchAt 19 = .ok (.iconst 0, 1) := by decide +kernel
theorem dX0_notchAt_20 : decode cX0_notchAt 20 = .ok (.ireturn, 1) := by decide +kernel
theorem dX0_agreesAt_0 : decode cX0_agreesAt 0 = .ok (.aload_n 0, 1) := by decide +kernel
theorem dX0_agreesAt_1 : decode cX0_agreesAt 1 = .ok (.iload_n 2, 1) := by decide +kernel
theorem dX0_agreesAt_2 : decode cX0_agreesAt 2 = .ok (.invokevirtual 18, 3) := by decide +kernel
theorem dX0_agreesAt_5 : decode cX0_agreesAt 5 = .ok (.aload_n 1, 1) := by decide +kernel
theorem dX0_agreesAt_6 : decode cX0_agreesAt 6 = .ok (.iload_n 2, 1) := by decide +kernel
theorem dX0_agreesAt_7 : decode cX0_agreesAt 7 = .ok (.invokevirtual 18, 3) := by decide +kernel
theorem dX0_agreesAt_10 : decode cX0_agreesAt 10 = .ok (.if_icmp .ne 20, 3) := by decide +kernel
theorem dX0_agreesAt_13 : decode cX0_agreesAt 13 = .ok (.aload_n 0, 1) := by decide +kernel
theorem dX0_agreesAt_14 : decode cX0_agreesAt 14 = .ok (.iload_n 2, 1) := by decide +kernel
theorem dX0_agreesAt_15 : decode cX0_agreesAt 15 = .ok (.invokevirtual 22, 3) := by decide +kernel
theorem dX0_agreesAt_18 : decode cX0_agreesAt 18 = .ok (.aload_n 1, 1) := by decide +kernel
theorem dX0_agreesAt_19 : decode cX0_agreesAt 19 = .ok (.iload_n 2, 1) := by decide +kernel
theorem dX0_agreesAt_20 : decode cX0_agreesAt 20 = .ok (.invokevirtual 22, 3) := by decide +kernel
theorem dX0_agreesAt_23 : decode cX0_agreesAt 23 = .ok (.if_icmp .ne 7, 3) := by decide +kernel
theorem dX0_agreesAt_26 : decode cX0_agreesAt 26 = .ok (.iconst 1, 1) := by decide +kernel
theorem dX0_agreesAt_27 : decode cX0_agreesAt 27 = .ok (.goto 4, 3) := by decide +kernel
theorem dX0_agreesAt_30 : decode cX0_agreesAt 30 = .ok (.iconst 0, 1) := by decide +kernel
theorem dX0_agreesAt_31 : decode cX0_agreesAt 31 = .ok (.ireturn, 1) := by decide +kernel
theorem dX0_bringHome_0 : decode cX0_bringHome 0 = .ok (.iconst 0, 1) := by decide +kernel
theorem dX0_bringHome_1 : decode cX0_bringHome 1 = .ok (.istore_n 1, 1) := by decide +kernel
theorem dX0_bringHome_2 : decode cX0_bringHome 2 = .ok (.iload_n 1, 1) := by decide +kernel
theorem dX0_bringHome_3 : decode cX0_bringHome 3 = .ok (.bipush 6, 2) := by decide +kernel
theorem dX0_bringHome_5 : decode cX0_bringHome 5 = .ok (.if_icmp .ge 23, 3) := by decide +kernel
theorem dX0_bringHome_8 : decode cX0_bringHome 8 = .ok (.aload_n 0, 1) := by decide +kernel
theorem dX0_bringHome_9 : decode cX0_bringHome 9 = .ok (.getfield 9, 3) := by decide +kernel
theorem dX0_bringHome_12 : decode cX0_bringHome 12 = .ok (.iload_n 1, 1) := by decide +kernel
theorem dX0_bringHome_13 : decode cX0_bringHome 13 = .ok (.iload_n 1, 1) := by decide +kernel
theorem dX0_bringHome_14 : decode cX0_bringHome 14 = .ok (.iastore, 1) := by decide +kernel
theorem dX0_bringHome_15 : decode cX0_bringHome 15 = .ok (.aload_n 0, 1) := by decide +kernel
theorem dX0_bringHome_16 : decode cX0_bringHome 16 = .ok (.getfield 15, 3) := by decide +kernel
theorem dX0_bringHome_19 : decode cX0_bringHome 19 = .ok (.iload_n 1, 1) := by decide +kernel
theorem dX0_bringHome_20 : decode cX0_bringHome 20 = .ok (.iconst 0, 1) := by decide +kernel
theorem dX0_bringHome_21 : decode cX0_bringHome 21 = .ok (.iastore, 1) := by decide +kernel
theorem dX0_bringHome_22 : decode cX0_bringHome 22 = .ok (.iinc 1 1, 3) := by decide +kernel
theorem dX0_bringHome_25 : decode cX0_bringHome 25 = .ok (.goto (-23), 3) := by decide +kernel
theorem dX0_bringHome_28 : decode cX0_bringHome 28 = .ok (.return_, 1) := by decide +kernel
theorem dX0_copyFrom_0 : decode cX0_copyFrom 0 = .ok (.iconst 0, 1) := by decide +kernel
theorem dX0_copyFrom_1 : decode cX0_copyFrom 1 = .ok (.istore_n 2, 1) := by decide +kernel
theorem dX0_copyFrom_2 : decode cX0_copyFrom 2 = .ok (.iload_n 2, 1) := by decide +kernel
theorem dX0_copyFrom_3 : decode cX0_copyFrom 3 = .ok (.bipush 6, 2) := by decide +kernel
theorem dX0_copyFrom_5 : decode cX0_copyFrom 5 = .ok (.if_icmp .ge 33, 3) := by decide +kernel
theorem dX0_copyFrom_8 : decode cX0_copyFrom 8 = .ok (.aload_n 0, 1) := by decide +kernel
theorem dX0_copyFrom_9 : decode cX0_copyFrom 9 = .ok (.getfield 9, 3) := by decide +kernel
theorem dX0_copyFrom_12 : decode cX0_copyFrom 12 = .ok (.iload_n 2, 1) := by decide +kernel
theorem dX0_copyFrom_13 : decode cX0_copyFrom 13 = .ok (.aload_n 1, 1) := by decide +kernel
theorem dX0_copyFrom_14 : decode cX0_copyFrom 14 = .ok (.getfield 9, 3) := by decide +kernel
theorem dX0_copyFrom_17 : decode cX0_copyFrom 17 = .ok (.iload_n 2, 1) := by decide +kernel
theorem dX0_copyFrom_18 : decode cX0_copyFrom 18 = .ok (.iaload, 1) := by decide +kernel
theorem dX0_copyFrom_19 : decode cX0_copyFrom 19 = .ok (.iastore, 1) := by decide +kernel
theorem dX0_copyFrom_20 : decode cX0_copyFrom 20 = .ok (.aload_n 0, 1) := by decide +kernel
theorem dX0_copyFrom_21 : decode cX0_copyFrom 21 = .ok (.getfield 15, 3) := by decide +kernel
theorem dX0_copyFrom_24 : decode cX0_copyFrom 24 = .ok (.iload_n 2, 1) := by decide +kernel
theorem dX0_copyFrom_25 : decode cX0_copyFrom 25 = .ok (.aload_n 1, 1) := by decide +kernel
theorem dX0_copyFrom_26 : decode cX0_copyFrom 26 = .ok (.getfield 15, 3) := by decide +kernel
theorem dX0_copyFrom_29 : decode cX0_copyFrom 29 = .ok (.iload_n 2, 1) := by decide +kernel
theorem dX0_copyFrom_30 : decode cX0_copyFrom 30 = .ok (.iaload, 1) := by decide +kernel
theorem dX0_copyFrom_31 : decode cX0_copyFrom 31 = .ok (.iastore, 1) := by decide +kernel
theorem dX0_copyFrom_32 : decode cX0_copyFrom 32 = .ok (.iinc 2 1, 3) := by decide +kernel
theorem dX0_copyFrom_35 : decode cX0_copyFrom 35 = .ok (.goto (-33), 3) := by decide +kernel
theorem dX0_copyFrom_38 : decode cX0_copyFrom 38 = .ok (.return_, 1) := by decide +kernel
theorem dX0_rotate_0 : decode cX0_rotate 0 = .ok (.iload_n 3, 1) := by decide +kernel
theorem dX0_rotate_1 : decode cX0_rotate 1 = .ok (.ifCond .eq 9, 3) := by decide +kernel
theorem dX0_rotate_4 : decode cX0_rotate 4 = .ok (.iconst 5, 1) := by decide +kernel
theorem dX0_rotate_5 : decode cX0_rotate 5 = .ok (.iload_n 2, 1) := by decide +kernel
theorem dX0_rotate_6 : decode cX0_rotate 6 = .ok (.isub, 1) := by decide +kernel
theorem dX0_rotate_7 : decode cX0_rotate 7 = .ok (.goto 4, 3) := by decide +kernel
theorem dX0_rotate_10 : decode cX0_rotate 10 = .ok (.iload_n 2, 1) := by decide +kernel
theorem dX0_rotate_11 : decode cX0_rotate 11 = .ok (.istore 4, 2) := by decide +kernel
theorem dX0_rotate_13 : decode cX0_rotate 13 = .ok (.iconst (-1), 1) := by decide +kernel
theorem dX0_rotate_14 : decode cX0_rotate 14 = .ok (.istore 5, 2) := by decide +kernel
theorem dX0_rotate_16 : decode cX0_rotate 16 = .ok (.iconst 0, 1) := by decide +kernel
theorem dX0_rotate_17 : decode cX0_rotate 17 = .ok (.istore 6, 2) := by decide +kernel
theorem dX0_rotate_19 : decode cX0_rotate 19 = .ok (.iconst 0, 1) := by decide +kernel
theorem dX0_rotate_20 : decode cX0_rotate 20 = .ok (.istore 7, 2) := by decide +kernel
theorem dX0_rotate_22 : decode cX0_rotate 22 = .ok (.iconst 0, 1) := by decide +kernel
theorem dX0_rotate_23 : decode cX0_rotate 23 = .ok (.istore 8, 2) := by decide +kernel
theorem dX0_rotate_25 : decode cX0_rotate 25 = .ok (.iload 8, 2) := by decide +kernel
theorem dX0_rotate_27 : decode cX0_rotate 27 = .ok (.bipush 6, 2) := by decide +kernel
theorem dX0_rotate_29 : decode cX0_rotate 29 = .ok (.if_icmp .ge 96, 3) := by decide +kernel
theorem dX0_rotate_32 : decode cX0_rotate 32 = .ok (.iload_n 3, 1) := by decide +kernel
theorem dX0_rotate_33 : decode cX0_rotate 33 = .ok (.ifCond .eq 10, 3) := by decide +kernel
theorem dX0_rotate_36 : decode cX0_rotate 36 = .ok (.iconst 5, 1) := by decide +kernel
theorem dX0_rotate_37 : decode cX0_rotate 37 = .ok (.iload 8, 2) := by decide +kernel
theorem dX0_rotate_39 : decode cX0_rotate 39 = .ok (.isub, 1) := by decide +kernel
theorem dX0_rotate_40 : decode cX0_rotate 40 = .ok (.goto 5, 3) := by decide +kernel
theorem dX0_rotate_43 : decode cX0_rotate 43 = .ok (.iload 8, 2) := by decide +kernel
theorem dX0_rotate_45 : decode cX0_rotate 45 = .ok (.istore 9, 2) := by decide +kernel
theorem dX0_rotate_47 : decode cX0_rotate 47 = .ok (.iload_n 1, 1) := by decide +kernel
theorem dX0_rotate_48 : decode cX0_rotate 48 = .ok (.iload 9, 2) := by decide +kernel
theorem dX0_rotate_50 : decode cX0_rotate 50 = .ok (.ishr, 1) := by decide +kernel
theorem dX0_rotate_51 : decode cX0_rotate 51 = .ok (.iconst 1, 1) := by decide +kernel
theorem dX0_rotate_52 : decode cX0_rotate 52 = .ok (.iand, 1) := by decide +kernel
theorem dX0_rotate_53 : decode cX0_rotate 53 = .ok (.iconst 1, 1) := by decide +kernel
theorem dX0_rotate_54 : decode cX0_rotate 54 = .ok (.if_icmp .ne 65, 3) := by decide +kernel
theorem dX0_rotate_57 : decode cX0_rotate 57 = .ok (.aload_n 0, 1) := by decide +kernel
theorem dX0_rotate_58 : decode cX0_rotate 58 = .ok (.getfield 9, 3) := by decide +kernel
theorem dX0_rotate_61 : decode cX0_rotate 61 = .ok (.iload 9, 2) := by decide +kernel
theorem dX0_rotate_63 : decode cX0_rotate 63 = .ok (.iaload, 1) := by decide +kernel
theorem dX0_rotate_64 : decode cX0_rotate 64 = .ok (.istore 10, 2) := by decide +kernel
theorem dX0_rotate_66 : decode cX0_rotate 66 = .ok (.aload_n 0, 1) := by decide +kernel
theorem dX0_rotate_67 : decode cX0_rotate 67 = .ok (.getfield 15, 3) := by decide +kernel
theorem dX0_rotate_70 : decode cX0_rotate 70 = .ok (.iload 9, 2) := by decide +kernel
theorem dX0_rotate_72 : decode cX0_rotate 72 = .ok (.iaload, 1) := by decide +kernel
theorem dX0_rotate_73 : decode cX0_rotate 73 = .ok (.iload 4, 2) := by decide +kernel
theorem dX0_rotate_75 : decode cX0_rotate 75 = .ok (.iadd, 1) := by decide +kernel
theorem dX0_rotate_76 : decode cX0_rotate 76 = .ok (.iconst 5, 1) := by decide +kernel
theorem dX0_rotate_77 : decode cX0_rotate 77 = .ok (.irem, 1) := by decide +kernel
theorem dX0_rotate_78 : decode cX0_rotate 78 = .ok (.istore 11, 2) := by decide +kernel
theorem dX0_rotate_80 : decode cX0_rotate 80 = .ok (.iload 5, 2) := by decide +kernel
theorem dX0_rotate_82 : decode cX0_rotate 82 = .ok (.iconst (-1), 1) := by decide +kernel
theorem dX0_rotate_83 : decode cX0_rotate 83 = .ok (.if_icmp .ne 10, 3) := by decide +kernel
theorem dX0_rotate_86 : decode cX0_rotate 86 = .ok (.iload 9, 2) := by decide +kernel
theorem dX0_rotate_88 : decode cX0_rotate 88 = .ok (.istore 5, 2) := by decide +kernel
theorem dX0_rotate_90 : decode cX0_rotate 90 = .ok (.goto 21, 3) := by decide +kernel
theorem dX0_rotate_93 : decode cX0_rotate 93 = .ok (.aload_n 0, 1) := by decide +kernel
theorem dX0_rotate_94 : decode cX0_rotate 94 = .ok (.getfield 9, 3) := by decide +kernel
theorem dX0_rotate_97 : decode cX0_rotate 97 = .ok (.iload 9, 2) := by decide +kernel
theorem dX0_rotate_99 : decode cX0_rotate 99 = .ok (.iload 6, 2) := by decide +kernel
theorem dX0_rotate_101 : decode cX0_rotate 101 = .ok (.iastore, 1) := by decide +kernel
theorem dX0_rotate_102 : decode cX0_rotate 102 = .ok (.aload_n 0, 1) := by decide +kernel
theorem dX0_rotate_103 : decode cX0_rotate 103 = .ok (.getfield 15, 3) := by decide +kernel
theorem dX0_rotate_106 : decode cX0_rotate 106 = .ok (.iload 9, 2) := by decide +kernel
theorem dX0_rotate_108 : decode cX0_rotate 108 = .ok (.iload 7, 2) := by decide +kernel
theorem dX0_rotate_110 : decode cX0_rotate 110 = .ok (.iastore, 1) := by decide +kernel
theorem dX0_rotate_111 : decode cX0_rotate 111 = .ok (.iload 10, 2) := by decide +kernel
theorem dX0_rotate_113 : decode cX0_rotate 113 = .ok (.istore 6, 2) := by decide +kernel
theorem dX0_rotate_115 : decode cX0_rotate 115 = .ok (.iload 11, 2) := by decide +kernel
theorem dX0_rotate_117 : decode cX0_rotate 117 = .ok (.istore 7, 2) := by decide +kernel
theorem dX0_rotate_119 : decode cX0_rotate 119 = .ok (.iinc 8 1, 3) := by decide +kernel
theorem dX0_rotate_122 : decode cX0_rotate 122 = .ok (.goto (-97), 3) := by decide +kernel
theorem dX0_rotate_125 : decode cX0_rotate 125 = .ok (.iload 5, 2) := by decide +kernel
theorem dX0_rotate_127 : decode cX0_rotate 127 = .ok (.ifCond .lt 28, 3) := by decide +kernel
theorem dX0_rotate_130 : decode cX0_rotate 130 = .ok (.iload 5, 2) := by decide +kernel
theorem dX0_rotate_132 : decode cX0_rotate 132 = .ok (.bipush 6, 2) := by decide +kernel
theorem dX0_rotate_134 : decode cX0_rotate 134 = .ok (.if_icmp .ge 21, 3) := by decide +kernel
theorem dX0_rotate_137 : decode cX0_rotate 137 = .ok (.aload_n 0, 1) := by decide +kernel
theorem dX0_rotate_138 : decode cX0_rotate 138 = .ok (.getfield 9, 3) := by decide +kernel
theorem dX0_rotate_141 : decode cX0_rotate 141 = .ok (.iload 5, 2) := by decide +kernel
theorem dX0_rotate_143 : decode cX0_rotate 143 = .ok (.iload 6, 2) := by decide +kernel
theorem dX0_rotate_145 : decode cX0_rotate 145 = .ok (.iastore, 1) := by decide +kernel
theorem dX0_rotate_146 : decode cX0_rotate 146 = .ok (.aload_n 0, 1) := by decide +kernel
theorem dX0_rotate_147 : decode cX0_rotate 147 = .ok (.getfield 15, 3) := by decide +kernel
theorem dX0_rotate_150 : decode cX0_rotate 150 = .ok (.iload 5, 2) := by decide +kernel
theorem dX0_rotate_152 : decode cX0_rotate 152 = .ok (.iload 7, 2) := by decide +kernel
theorem dX0_rotate_154 : decode cX0_rotate 154 = .ok (.iastore, 1) := by decide +kernel
theorem dX0_rotate_155 : decode cX0_rotate 155 = .ok (.return_, 1) := by decide +kernel
theorem dX0_putAhead_0 : decode cX0_putAhead 0 = .ok (.iconst 0, 1) := by decide +kernel
theorem dX0_putAhead_1 : decode cX0_putAhead 1 = .ok (.istore_n 2, 1) := by decide +kernel
theorem dX0_putAhead_2 : decode cX0_putAhead 2 = .ok (.iload_n 2, 1) := by decide +kernel
theorem dX0_putAhead_3 : decode cX0_putAhead 3 = .ok (.bipush 6, 2) := by decide +kernel
theorem dX0_putAhead_5 : decode cX0_putAhead 5 = .ok (.if_icmp .ge 47, 3) := by decide +kernel
theorem dX0_putAhead_8 : decode cX0_putAhead 8 = .ok (.aload_n 0, 1) := by decide +kernel
theorem dX0_putAhead_9 : decode cX0_putAhead 9 = .ok (.getfield 9, 3) := by decide +kernel
theorem dX0_putAhead_12 : decode cX0_putAhead 12 = .ok (.iload_n 2, 1) := by decide +kernel
theorem dX0_putAhead_13 : decode cX0_putAhead 13 = .ok (.iaload, 1) := by decide +kernel
theorem dX0_putAhead_14 : decode cX0_putAhead 14 = .ok (.istore_n 3, 1) := by decide +kernel
theorem dX0_putAhead_15 : decode cX0_putAhead 15 = .ok (.aload_n 0, 1) := by decide +kernel
theorem dX0_putAhead_16 : decode cX0_putAhead 16 = .ok (.getfield 9, 3) := by decide +kernel
theorem dX0_putAhead_19 : decode cX0_putAhead 19 = .ok (.iload_n 2, 1) := by decide +kernel
theorem dX0_putAhead_20 : decode cX0_putAhead 20 = .ok (.aload_n 1, 1) := by decide +kernel
theorem dX0_putAhead_21 : decode cX0_putAhead 21 = .ok (.iload_n 3, 1) := by decide +kernel
theorem dX0_putAhead_22 : decode cX0_putAhead 22 = .ok (.invokevirtual 18, 3) := by decide +kernel
theorem dX0_putAhead_25 : decode cX0_putAhead 25 = .ok (.iastore, 1) := by decide +kernel
theorem dX0_putAhead_26 : decode cX0_putAhead 26 = .ok (.aload_n 0, 1) := by decide +kernel
theorem dX0_putAhead_27 : decode cX0_putAhead 27 = .ok (.getfield 15, 3) := by decide +kernel
theorem dX0_putAhead_30 : decode cX0_putAhead 30 = .ok (.iload_n 2, 1) := by decide +kernel
theorem dX0_putAhead_31 : decode cX0_putAhead 31 = .ok (.aload_n 0, 1) := by decide +kernel
theorem dX0_putAhead_32 : decode cX0_putAhead 32 = .ok (.getfield 15, 3) := by decide +kernel
theorem dX0_putAhead_35 : decode cX0_putAhead 35 = .ok (.iload_n 2, 1) := by decide +kernel
theorem dX0_putAhead_36 : decode cX0_putAhead 36 = .ok (.iaload, 1) := by decide +kernel
theorem dX0_putAhead_37 : decode cX0_putAhead 37 = .ok (.aload_n 1, 1) := by decide +kernel
theorem dX0_putAhead_38 : decode cX0_putAhead 38 = .ok (.iload_n 3, 1) := by decide +kernel
theorem dX0_putAhead_39 : decode cX0_putAhead 39 = .ok (.invokevirtual 22, 3) := by decide +kernel
theorem dX0_putAhead_42 : decode cX0_putAhead 42 = .ok (.iadd, 1) := by decide +kernel
theorem dX0_putAhead_43 : decode cX0_putAhead 43 = .ok (.iconst 5, 1) := by decide +kernel
theorem dX0_putAhead_44 : decode cX0_putAhead 44 = .ok (.irem, 1) := by decide +kernel
theorem dX0_putAhead_45 : decode cX0_putAhead 45 = .ok (.iastore, 1) := by decide +kernel
theorem dX0_putAhead_46 : decode cX0_putAhead 46 = .ok (.iinc 2 1, 3) := by decide +kernel
theorem dX0_putAhead_49 : decode cX0_putAhead 49 = .ok (.goto (-47), 3) := by decide +kernel
theorem dX0_putAhead_52 : decode cX0_putAhead 52 = .ok (.return_, 1) := by decide +kernel
theorem dX0_reach_0 : decode cX0_reach 0 = .ok (.iconst 0, 1) := by decide +kernel
theorem dX0_reach_1 : decode cX0_reach 1 = .ok (.istore_n 1, 1) := by decide +kernel
theorem dX0_reach_2 : decode cX0_reach 2 = .ok (.iconst 0, 1) := by decide +kernel
theorem dX0_reach_3 : decode cX0_reach 3 = .ok (.istore_n 2, 1) := by decide +kernel
theorem dX0_reach_4 : decode cX0_reach 4 = .ok (.iload_n 2, 1) := by decide +kernel
theorem dX0_reach_5 : decode cX0_reach 5 = .ok (.bipush 6, 2) := by decide +kernel
theorem dX0_reach_7 : decode cX0_reach 7 = .ok (.if_icmp .ge 34, 3) := by decide +kernel
theorem dX0_reach_10 : decode cX0_reach 10 = .ok (.aload_n 0, 1) := by decide +kernel
theorem dX0_reach_11 : decode cX0_reach 11 = .ok (.getfield 9, 3) := by decide +kernel
theorem dX0_reach_14 : decode cX0_reach 14 = .ok (.iload_n 2, 1) := by decide +kernel
theorem dX0_reach_15 : decode cX0_reach 15 = .ok (.iaload, 1) := by decide +kernel
theorem dX0_reach_16 : decode cX0_reach 16 = .ok (.iload_n 2, 1) := by decide +kernel
theorem dX0_reach_17 : decode cX0_reach 17 = .ok (.if_icmp .ne 12, 3) := by decide +kernel
theorem dX0_reach_20 : decode cX0_reach 20 = .ok (.aload_n 0, 1) := by decide +kernel
theorem dX0_reach_21 : decode cX0_reach 21 = .ok (.getfield 15, 3) := by decide +kernel
theorem dX0_reach_24 : decode cX0_reach 24 = .ok (.iload_n 2, 1) := by decide +kernel
theorem dX0_reach_25 : decode cX0_reach 25 = .ok (.iaload, 1) := by decide +kernel
theorem dX0_reach_26 : decode cX0_reach 26 = .ok (.ifCond .eq 9, 3) := by decide +kernel
theorem dX0_reach_29 : decode cX0_reach 29 = .ok (.iload_n 1, 1) := by decide +kernel
theorem dX0_reach_30 : decode cX0_reach 30 = .ok (.iconst 1, 1) := by decide +kernel
theorem dX0_reach_31 : decode cX0_reach 31 = .ok (.iload_n 2, 1) := by decide +kernel
theorem dX0_reach_32 : decode cX0_reach 32 = .ok (.ishl, 1) := by decide +kernel
theorem dX0_reach_33 : decode cX0_reach 33 = .ok (.ior, 1) := by decide +kernel
theorem dX0_reach_34 : decode cX0_reach 34 = .ok (.istore_n 1, 1) := by decide +kernel
theorem dX0_reach_35 : decode cX0_reach 35 = .ok (.iinc 2 1, 3) := by decide +kernel
theorem dX0_reach_38 : decode cX0_reach 38 = .ok (.goto (-34), 3) := by decide +kernel
theorem dX0_reach_41 : decode cX0_reach 41 = .ok (.iload_n 1, 1) := by decide +kernel
theorem dX0_reach_42 : decode cX0_reach 42 = .ok (.ireturn, 1) := by decide +kernel
theorem dX0_notchSum_0 : decode cX0_notchSum 0 = .ok (.iconst 0, 1) := by decide +kernel
theorem dX0_notchSum_1 : decode cX0_notchSum 1 = .ok (.istore_n 1, 1) := by decide +kernel
theorem dX0_notchSum_2 : decode cX0_notchSum 2 = .ok (.iconst 0, 1) := by decide +kernel
theorem dX0_notchSum_3 : decode cX0_notchSum 3 = .ok (.istore_n 2, 1) := by decide +kernel
theorem dX0_notchSum_4 : decode cX0_notchSum 4 = .ok (.iload_n 2, 1) := by decide +kernel
theorem dX0_notchSum_5 : decode cX0_notchSum 5 = .ok (.bipush 6, 2) := by decide +kernel
theorem dX0_notchSum_7 : decode cX0_notchSum 7 = .ok (.if_icmp .ge 18, 3) := by decide +kernel
theorem dX0_notchSum_10 : decode cX0_notchSum 10 = .ok (.iload_n 1, 1) := by decide +kernel
theorem dX0_notchSum_11 : decode cX0_notchSum 11 = .ok (.aload_n 0, 1) := by decide +kernel
theorem dX0_notchSum_12 : decode cX0_notchSum 12 = .ok (.getfield 15, 3) := by decide +kernel
theorem dX0_notchSum_15 : decode cX0_notchSum 15 = .ok (.iload_n 2, 1) := by decide +kernel
theorem dX0_notchSum_16 : decode cX0_notchSum 16 = .ok (.iaload, 1) := by decide +kernel
theorem dX0_notchSum_17 : decode cX0_notchSum 17 = .ok (.iadd, 1) := by decide +kernel
theorem dX0_notchSum_18 : decode cX0_notchSum 18 = .ok (.istore_n 1, 1) := by decide +kernel
theorem dX0_notchSum_19 : decode cX0_notchSum 19 = .ok (.iinc 2 1, 3) := by decide +kernel
theorem dX0_notchSum_22 : decode cX0_notchSum 22 = .ok (.goto (-18), 3) := by decide +kernel
theorem dX0_notchSum_25 : decode cX0_notchSum 25 = .ok (.iload_n 1, 1) := by decide +kernel
theorem dX0_notchSum_26 : decode cX0_notchSum 26 = .ok (.ireturn, 1) := by decide +kernel
theorem dX0_agreeing_0 : decode cX0_agreeing 0 = .ok (.iconst 0, 1) := by decide +kernel
theorem dX0_agreeing_1 : decode cX0_agreeing 1 = .ok (.istore_n 2, 1) := by decide +kernel
theorem dX0_agreeing_2 : decode cX0_agreeing 2 = .ok (.iconst 0, 1) := by decide +kernel
theorem dX0_agreeing_3 : decode cX0_agreeing 3 = .ok (.istore_n 3, 1) := by decide +kernel
theorem dX0_agreeing_4 : decode cX0_agreeing 4 = .ok (.iload_n 3, 1) := by decide +kernel
theorem dX0_agreeing_5 : decode cX0_agreeing 5 = .ok (.bipush 6, 2) := by decide +kernel
theorem dX0_agreeing_7 : decode cX0_agreeing 7 = .ok (.if_icmp .ge 42, 3) := by decide +kernel
theorem dX0_agreeing_10 : decode cX0_agreeing 10 = .ok (.aload_n 0, 1) := by decide +kernel
theorem dX0_agreeing_11 : decode cX0_agreeing 11 = .ok (.getfield 9, 3) := by decide +kernel
theorem dX0_agreeing_14 : decode cX0_agreeing 14 = .ok (.iload_n 3, 1) := by decide +kernel
theorem dX0_agreeing_15 : decode cX0_agreeing 15 = .ok (.iaload, 1) := by decide +kernel
theorem dX0_agreeing_16 : decode cX0_agreeing 16 = .ok (.aload_n 1, 1) := by decide +kernel
theorem dX0_agreeing_17 : decode cX0_agreeing 17 = .ok (.getfield 9, 3) := by decide +kernel
theorem dX0_agreeing_20 : decode cX0_agreeing 20 = .ok (.iload_n 3, 1) := by decide +kernel
theorem dX0_agreeing_21 : decode cX0_agreeing 21 = .ok (.iaload, 1) := by decide +kernel
theorem dX0_agreeing_22 : decode cX0_agreeing 22 = .ok (.if_icmp .ne 21, 3) := by decide +kernel
theorem dX0_agreeing_25 : decode cX0_agreeing 25 = .ok (.aload_n 0, 1) := by decide +kernel
theorem dX0_agreeing_26 : decode cX0_agreeing 26 = .ok (.getfield 15, 3) := by decide +kernel
theorem dX0_agreeing_29 : decode cX0_agreeing 29 = .ok (.iload_n 3, 1) := by decide +kernel
theorem dX0_agreeing_30 : decode cX0_agreeing 30 = .ok (.iaload, 1) := by decide +kernel
theorem dX0_agreeing_31 : decode cX0_agreeing 31 = .ok (.aload_n 1, 1) := by decide +kernel
theorem dX0_agreeing_32 : decode cX0_agreeing 32 = .ok (.getfield 15, 3) := by decide +kernel
theorem dX0_agreeing_35 : decode cX0_agreeing 35 = .ok (.iload_n 3, 1) := by decide +kernel
theorem dX0_agreeing_36 : decode cX0_agreeing 36 = .ok (.iaload, 1) := by decide +kernel
theorem dX0_agreeing_37 : decode cX0_agreeing 37 = .ok (.if_icmp .ne 6, 3) := by decide +kernel
theorem dX0_agreeing_40 : decode cX0_agreeing 40 = .ok (.iinc 2 1, 3) := by decide +kernel
theorem dX0_agreeing_43 : decode cX0_agreeing 43 = .ok (.iinc 3 1, 3) := by decide +kernel
theorem dX0_agreeing_46 : decode cX0_agreeing 46 = .ok (.goto (-42), 3) := by decide +kernel
theorem dX0_agreeing_49 : decode cX0_agreeing 49 = .ok (.iload_n 2, 1) := by decide +kernel
theorem dX0_agreeing_50 : decode cX0_agreeing 50 = .ok (.ireturn, 1) := by decide +kernel
theorem dX0_fingerprint_0 : decode cX0_fingerprint 0 = .ok (.iconst 0, 1) := by decide +kernel
theorem dX0_fingerprint_1 : decode cX0_fingerprint 1 = .ok (.istore_n 1, 1) := by decide +kernel
theorem dX0_fingerprint_2 : decode cX0_fingerprint 2 = .ok (.iconst 0, 1) := by decide +kernel
theorem dX0_fingerprint_3 : decode cX0_fingerprint 3 = .ok (.istore_n 2, 1) := by decide +kernel
theorem dX0_fingerprint_4 : decode cX0_fingerprint 4 = .ok (.iload_n 2, 1) := by decide +kernel
theorem dX0_fingerprint_5 : decode cX0_fingerprint 5 = .ok (.bipush 6, 2) := by decide +kernel
theorem dX0_fingerprint_7 : decode cX0_fingerprint 7 = .ok (.if_icmp .ge 30, 3) := by decide +kernel
theorem dX0_fingerprint_10 : decode cX0_fingerprint 10 = .ok (.iload_n 1, 1) := by decide +kernel
theorem dX0_fingerprint_11 : decode cX0_fingerprint 11 = .ok (.bipush 30, 2) := by decide +kernel
theorem dX0_fingerprint_13 : decode cX0_fingerprint 13 = .ok (.imul, 1) := by decide +kernel
theorem dX0_fingerprint_14 : decode cX0_fingerprint 14 = .ok (.aload_n 0, 1) := by decide +kernel
theorem dX0_fingerprint_15 : decode cX0_fingerprint 15 = .ok (.getfield 9, 3) := by decide +kernel
theorem dX0_fingerprint_18 : decode cX0_fingerprint 18 = .ok (.iload_n 2, 1) := by decide +kernel
theorem dX0_fingerprint_19 : decode cX0_fingerprint 19 = .ok (.iaload, 1) := by decide +kernel
theorem dX0_fingerprint_20 : decode cX0_fingerprint 20 = .ok (.iconst 5, 1) := by decide +kernel
theorem dX0_fingerprint_21 : decode cX0_fingerprint 21 = .ok (.imul, 1) := by decide +kernel
theorem dX0_fingerprint_22 : decode cX0_fingerprint 22 = .ok (.iadd, 1) := by decide +kernel
theorem dX0_fingerprint_23 : decode cX0_fingerprint 23 = .ok (.aload_n 0, 1) := by decide +kernel
theorem dX0_fingerprint_24 : decode cX0_fingerprint 24 = .ok (.getfield 15, 3) := by decide +kernel
theorem dX0_fingerprint_27 : decode cX0_fingerprint 27 = .ok (.iload_n 2, 1) := by decide +kernel
theorem dX0_fingerprint_28 : decode cX0_fingerprint 28 = .ok (.iaload, 1) := by decide +kernel
theorem dX0_fingerprint_29 : decode cX0_fingerprint 29 = .ok (.iadd, 1) := by decide +kernel
theorem dX0_fingerprint_30 : decode cX0_fingerprint 30 = .ok (.istore_n 1, 1) := by decide +kernel
theorem dX0_fingerprint_31 : decode cX0_fingerprint 31 = .ok (.iinc 2 1, 3) := by decide +kernel
theorem dX0_fingerprint_34 : decode cX0_fingerprint 34 = .ok (.goto (-30), 3) := by decide +kernel
theorem dX0_fingerprint_37 : decode cX0_fingerprint 37 = .ok (.iload_n 1, 1) := by decide +kernel
theorem dX0_fingerprint_38 : decode cX0_fingerprint 38 = .ok (.ireturn, 1) := by decide +kernel
theorem dX0_periodByRounds_0 : decode cX0_periodByRounds 0 = .ok (.iconst 1, 1) := by decide +kernel
theorem dX0_periodByRounds_1 : decode cX0_periodByRounds 1 = .ok (.istore_n 1, 1) := by decide +kernel
theorem dX0_periodByRounds_2 : decode cX0_periodByRounds 2 = .ok (.iconst 0, 1) := by decide +kernel
theorem dX0_periodByRounds_3 : decode cX0_periodByRounds 3 = .ok (.istore_n 2, 1) := by decide +kernel
theorem dX0_periodByRounds_4 : decode cX0_periodByRounds 4 = .ok (.iconst 0, 1) := by decide +kernel
theorem dX0_periodByRounds_5 : decode cX0_periodByRounds 5 = .ok (.istore_n 3, 1) := by decide +kernel
theorem dX0_periodByRounds_6 : decode cX0_periodByRounds 6 = .ok (.iload_n 3, 1) := by decide +kernel
theorem dX0_periodByRounds_7 : decode cX0_periodByRounds 7 = .ok (.bipush 6, 2) := by decide +kernel
theorem dX0_periodByRounds_9 : decode cX0_periodByRounds 9 = .ok (.if_icmp .ge 92, 3) := by decide +kernel
theorem dX0_periodByRounds_12 : decode cX0_periodByRounds 12 = .ok (.iconst 0, 1) := by decide +kernel
theorem dX0_periodByRounds_13 : decode cX0_periodByRounds 13 = .ok (.istore 4, 2) := by decide +kernel
theorem dX0_periodByRounds_15 : decode cX0_periodByRounds 15 = .ok (.iconst 0, 1) := by decide +kernel
theorem dX0_periodByRounds_16 : decode cX0_periodByRounds 16 = .ok (.istore 5, 2) := by decide +kernel
theorem dX0_periodByRounds_18 : decode cX0_periodByRounds 18 = .ok (.iload_n 3, 1) := by decide +kernel
theorem dX0_periodByRounds_19 : decode cX0_periodByRounds 19 = .ok (.istore 6, 2) := by decide +kernel
theorem dX0_periodByRounds_21 : decode cX0_periodByRounds 21 = .ok (.iload 4, 2) := by decide +kernel
theorem dX0_periodByRounds_23 : decode cX0_periodByRounds 23 = .ok (.bipush 6, 2) := by decide +kernel
theorem dX0_periodByRounds_25 : decode cX0_periodByRounds 25 = .ok (.if_icmp .ge 44, 3) := by decide +kernel
theorem dX0_periodByRounds_28 : decode cX0_periodByRounds 28 = .ok (.iload_n 2, 1) := by decide +kernel
theorem dX0_periodByRounds_29 : decode cX0_periodByRounds 29 = .ok (.iload 6, 2) := by decide +kernel
theorem dX0_periodByRounds_31 : decode cX0_periodByRounds 31 = .ok (.ishr, 1) := by decide +kernel
theorem dX0_periodByRounds_32 : decode cX0_periodByRounds 32 = .ok (.iconst 1, 1) := by decide +kernel
theorem dX0_periodByRounds_33 : decode cX0_periodByRounds 33 = .ok (.iand, 1) := by decide +kernel
theorem dX0_periodByRounds_34 : decode cX0_periodByRounds 34 = .ok (.ifCond .ne 35, 3) := by decide +kernel
theorem dX0_periodByRounds_37 : decode cX0_periodByRounds 37 = .ok (.iload_n 2, 1) := by decide +kernel
theorem dX0_periodByRounds_38 : decode cX0_periodByRounds 38 = .ok (.iconst 1, 1) := by decide +kernel
theorem dX0_periodByRounds_39 : decode cX0_periodByRounds 39 = .ok (.iload 6, 2) := by decide +kernel
theorem dX0_periodByRounds_41 : decode cX0_periodByRounds 41 = .ok (.ishl, 1) := by decide +kernel
theorem dX0_periodByRounds_42 : decode cX0_periodByRounds 42 = .ok (.ior, 1) := by decide +kernel
theorem dX0_periodByRounds_43 : decode cX0_periodByRounds 43 = .ok (.istore_n 2, 1) := by decide +kernel
theorem dX0_periodByRounds_44 : decode cX0_periodByRounds 44 = .ok (.aload_n 0, 1) := by decide +kernel
theorem dX0_periodByRounds_45 : decode cX0_periodByRounds 45 = .ok (.iload 6, 2) := by decide +kernel
theorem dX0_periodByRounds_47 : decode cX0_periodByRounds 47 = .ok (.invokevirtual 25, 3) := by decide +kernel
theorem dX0_periodByRounds_50 : decode cX0_periodByRounds 50 = .ok (.istore 6, 2) := by decide +kernel
theorem dX0_periodByRounds_52 : decode cX0_periodByRounds 52 = .ok (.iload 5, 2) := by decide +kernel
theorem dX0_periodByRounds_54 : decode cX0_periodByRounds 54 = .ok (.aload_n 0, 1) := by decide +kernel
theorem dX0_periodByRounds_55 : decode cX0_periodByRounds 55 = .ok (.iload 6, 2) := by decide +kernel
theorem dX0_periodByRounds_57 : decode cX0_periodByRounds 57 = .ok (.invokevirtual 22, 3) := by decide +kernel
theorem dX0_periodByRounds_60 : decode cX0_periodByRounds 60 = .ok (.iadd, 1) := by decide +kernel
theorem dX0_periodByRounds_61 : decode cX0_periodByRounds 61 = .ok (.istore 5, 2) := by decide +kernel
theorem dX0_periodByRounds_63 : decode cX0_periodByRounds 63 = .ok (.iinc 4 1, 3) := by decide +kernel
theorem dX0_periodByRounds_66 : decode cX0_periodByRounds 66 = .ok (.goto (-45), 3) := by decide +kernel
theorem dX0_periodByRounds_69 : decode cX0_periodByRounds 69 = .ok (.iload 4, 2) := by decide +kernel
theorem dX0_periodByRounds_71 : decode cX0_periodByRounds 71 = .ok (.ifCond .le 24, 3) := by decide +kernel
theorem dX0_periodByRounds_74 : decode cX0_periodByRounds 74 = .ok (.iload_n 1, 1) := by decide +kernel
theorem dX0_periodByRounds_75 : decode cX0_periodByRounds 75 = .ok (.iload 5, 2) := by decide +kernel
theorem dX0_periodByRounds_77 : decode cX0_periodByRounds 77 = .ok (.iconst 5, 1) := by decide +kernel
theorem dX0_periodByRounds_78 : decode cX0_periodByRounds 78 = .ok (.irem, 1) := by decide +kernel
theorem dX0_periodByRounds_79 : decode cX0_periodByRounds 79 = .ok (.ifCond .ne 8, 3) := by decide +kernel
theorem dX0_periodByRounds_82 : decode cX0_periodByRounds 82 = .ok (.iload 4, 2) := by decide +kernel
theorem dX0_periodByRounds_84 : decode cX0_periodByRounds 84 = .ok (.goto 7, 3) := by decide +kernel
theorem dX0_periodByRounds_87 : decode cX0_periodByRounds 87 = .ok (.iconst 5, 1) := by decide +kernel
theorem dX0_periodByRounds_88 : decode cX0_periodByRounds 88 = .ok (.iload 4, 2) := by decide +kernel
theorem dX0_periodByRounds_90 : decode cX0_periodByRounds 90 = .ok (.imul, 1) := by decide +kernel
theorem dX0_periodByRounds_91 : decode cX0_periodByRounds 91 = .ok (.invokestatic 28, 3) := by decide +kernel
theorem dX0_periodByRounds_94 : decode cX0_periodByRounds 94 = .ok (.istore_n 1, 1) := by decide +kernel
theorem dX0_periodByRounds_95 : decode cX0_periodByRounds 95 = .ok (.iinc 3 1, 3) := by decide +kernel
theorem dX0_periodByRounds_98 : decode cX0_periodByRounds 98 = .ok (.goto (-92), 3) := by decide +kernel
theorem dX0_periodByRounds_101 : decode cX0_periodByRounds 101 = .ok (.iload_n 1, 1) := by decide +kernel
theorem dX0_periodByRounds_102 : decode cX0_periodByRounds 102 = .ok (.ireturn, 1) := by decide +kernel
theorem dX0_placeOf_0 : decode cX0_placeOf 0 = .ok (.iload_n 1, 1) := by decide +kernel
theorem dX0_placeOf_1 : decode cX0_placeOf 1 = .ok (.istore_n 2, 1) := by decide +kernel
theorem dX0_placeOf_2 : decode cX0_placeOf 2 = .ok (.iconst 0, 1) := by decide +kernel
theorem dX0_placeOf_3 : decode cX0_placeOf 3 = .ok (.istore_n 3, 1) := by decide +kernel
theorem dX0_placeOf_4 : decode cX0_placeOf 4 = .ok (.iload_n 3, 1) := by decide +kernel
theorem dX0_placeOf_5 : decode cX0_placeOf 5 = .ok (.bipush 6, 2) := by decide +kernel
theorem dX0_placeOf_7 : decode cX0_placeOf 7 = .ok (.if_icmp .ge 21, 3) := by decide +kernel
theorem dX0_placeOf_10 : decode cX0_placeOf 10 = .ok (.aload_n 0, 1) := by decide +kernel
theorem dX0_placeOf_11 : decode cX0_placeOf 11 = .ok (.getfield 9, 3) := by decide +kernel
theorem dX0_placeOf_14 : decode cX0_placeOf 14 = .ok (.iload_n 3, 1) := by decide +kernel
theorem dX0_placeOf_15 : decode cX0_placeOf 15 = .ok (.iaload, 1) := by decide +kernel
theorem dX0_placeOf_16 : decode cX0_placeOf 16 = .ok (.iload_n 1, 1) := by decide +kernel
theorem dX0_placeOf_17 : decode cX0_placeOf 17 = .ok (.if_icmp .ne 5, 3) := by decide +kernel
theorem dX0_placeOf_20 : decode cX0_placeOf 20 = .ok (.iload_n 3, 1) := by decide +kernel
theorem dX0_placeOf_21 : decode cX0_placeOf 21 = .ok (.istore_n 2, 1) := by decide +kernel
theorem dX0_placeOf_22 : decode cX0_placeOf 22 = .ok (.iinc 3 1, 3) := by decide +kernel
theorem dX0_placeOf_25 : decode cX0_placeOf 25 = .ok (.goto (-21), 3) := by decide +kernel
theorem dX0_placeOf_28 : decode cX0_placeOf 28 = .ok (.iload_n 2, 1) := by decide +kernel
theorem dX0_placeOf_29 : decode cX0_placeOf 29 = .ok (.ireturn, 1) := by decide +kernel
theorem dX0_leastMultiple_0 : decode cX0_leastMultiple 0 = .ok (.iload_n 0, 1) := by decide +kernel
theorem dX0_leastMultiple_1 : decode cX0_leastMultiple 1 = .ok (.istore_n 2, 1) := by decide +kernel
theorem dX0_leastMultiple_2 : decode cX0_leastMultiple 2 = .ok (.iconst 1, 1) := by decide +kernel
theorem dX0_leastMultiple_3 : decode cX0_leastMultiple 3 = .ok (.istore_n 3, 1) := by decide +kernel
theorem dX0_leastMultiple_4 : decode cX0_leastMultiple 4 = .ok (.iload_n 3, 1) := by decide +kernel
theorem dX0_leastMultiple_5 : decode cX0_leastMultiple 5 = .ok (.iload_n 1, 1) := by decide +kernel
theorem dX0_leastMultiple_6 : decode cX0_leastMultiple 6 = .ok (.if_icmp .ge 19, 3) := by decide +kernel
theorem dX0_leastMultiple_9 : decode cX0_leastMultiple 9 = .ok (.iload_n 2, 1) := by decide +kernel
theorem dX0_leastMultiple_10 : decode cX0_leastMultiple 10 = .ok (.iload_n 1, 1) := by decide +kernel
theorem dX0_leastMultiple_11 : decode cX0_leastMultiple 11 = .ok (.irem, 1) := by decide +kernel
theorem dX0_leastMultiple_12 : decode cX0_leastMultiple 12 = .ok (.ifCond .eq 13, 3) := by decide +kernel
theorem dX0_leastMultiple_15 : decode cX0_leastMultiple 15 = .ok (.iload_n 2, 1) := by decide +kernel
theorem dX0_leastMultiple_16 : decode cX0_leastMultiple 16 = .ok (.iload_n 0, 1) := by decide +kernel
theorem dX0_leastMultiple_17 : decode cX0_leastMultiple 17 = .ok (.iadd, 1) := by decide +kernel
theorem dX0_leastMultiple_18 : decode cX0_leastMultiple 18 = .ok (.istore_n 2, 1) := by decide +kernel
theorem dX0_leastMultiple_19 : decode cX0_leastMultiple 19 = .ok (.iinc 3 1, 3) := by decide +kernel
theorem dX0_leastMultiple_22 : decode cX0_leastMultiple 22 = .ok (.goto (-18), 3) := by decide +kernel
theorem dX0_leastMultiple_25 : decode cX0_leastMultiple 25 = .ok (.iload_n 2, 1) := by decide +kernel
theorem dX0_leastMultiple_26 : decode cX0_leastMultiple 26 = .ok (.ireturn, 1) := by decide +kernel
theorem dX1_init_0 : decode cX1_init 0 = .ok (.aload_n 0, 1) := by decide +kernel
theorem dX1_init_1 : decode cX1_init 1 = .ok (.invokespecial 3, 3) := by decide +kernel
theorem dX1_init_4 : decode cX1_init 4 = .ok (.aload_n 0, 1) := by decide +kernel
theorem dX1_init_5 : decode cX1_init 5 = .ok (.iconst 5, 1) := by decide +kernel
theorem dX1_init_6 : decode cX1_init 6 = .ok (.newarray .int, 2) := by decide +kernel
theorem dX1_init_8 : decode cX1_init 8 = .ok (.putfield 9, 3) := by decide +kernel
theorem dX1_init_11 : decode cX1_init 11 = .ok (.aload_n 0, 1) := by decide +kernel
theorem dX1_init_12 : decode cX1_init 12 = .ok (.iconst 5, 1) := by decide +kernel
theorem dX1_init_13 : decode cX1_init 13 = .ok (.newarray .int, 2) := by decide +kernel
theorem dX1_init_15 : decode cX1_init 15 = .ok (.putfield 15, 3) := by decide +kernel
theorem dX1_init_18 : decode cX1_init 18 = .ok (.iconst 0, 1) := by decide +kernel
theorem dX1_init_19 : decode cX1_init 19 = .ok (.istore_n 1, 1) := by decide +kernel
theorem dX1_init_20 : decode cX1_init 20 = .ok (.iload_n 1, 1) := by decide +kernel
theorem dX1_init_21 : decode cX1_init 21 = .ok (.iconst 5, 1) := by decide +kernel
theorem dX1_init_22 : decode cX1_init 22 = .ok (.if_icmp .ge 47, 3) := by decide +kernel
theorem dX1_init_25 : decode cX1_init 25 = .ok (.aload_n 0, 1) := by decide +kernel
theorem dX1_init_26 : decode cX1_init 26 = .ok (.getfield 9, 3) := by decide +kernel
theorem dX1_init_29 : decode cX1_init 29 = .ok (.iload_n 1, 1) := by decide +kernel
theorem dX1_init_30 : decode cX1_init 30 = .ok (.iconst 1, 1) := by decide +kernel
theorem dX1_init_31 : decode cX1_init 31 = .ok (.iload_n 1, 1) := by decide +kernel
theorem dX1_init_32 : decode cX1_init 32 = .ok (.ishl, 1) := by decide +kernel
theorem dX1_init_33 : decode cX1_init 33 = .ok (.iconst 1, 1) := by decide +kernel
theorem dX1_init_34 : decode cX1_init 34 = .ok (.iload_n 1, 1) := by decide +kernel
theorem dX1_init_35 : decode cX1_init 35 = .ok (.iconst 1, 1) := by decide +kernel
theorem dX1_init_36 : decode cX1_init 36 = .ok (.iadd, 1) := by decide +kernel
theorem dX1_init_37 : decode cX1_init 37 = .ok (.bipush 6, 2) := by decide +kernel
theorem dX1_init_39 : decode cX1_init 39 = .ok (.irem, 1) := by decide +kernel
theorem dX1_init_40 : decode cX1_init 40 = .ok (.ishl, 1) := by decide +kernel
theorem dX1_init_41 : decode cX1_init 41 = .ok (.ior, 1) := by decide +kernel
theorem dX1_init_42 : decode cX1_init 42 = .ok (.iconst 1, 1) := by decide +kernel
theorem dX1_init_43 : decode cX1_init 43 = .ok (.iload_n 1, 1) := by decide +kernel
theorem dX1_init_44 : decode cX1_init 44 = .ok (.iconst 3, 1) := by decide +kernel
theorem dX1_init_45 : decode cX1_init 45 = .ok (.iadd, 1) := by decide +kernel
theorem dX1_init_46 : decode cX1_init 46 = .ok (.bipush 6, 2) := by decide +kernel
theorem dX1_init_48 : decode cX1_init 48 = .ok (.irem, 1) := by decide +kernel
theorem dX1_init_49 : decode cX1_init 49 = .ok (.ishl, 1) := by decide +kernel
theorem dX1_init_50 : decode cX1_init 50 = .ok (.ior, 1) := by decide +kernel
theorem dX1_init_51 : decode cX1_init 51 = .ok (.iastore, 1) := by decide +kernel
theorem dX1_init_52 : decode cX1_init 52 = .ok (.aload_n 0, 1) := by decide +kernel
theorem dX1_init_53 : decode cX1_init 53 = .ok (.getfield 15, 3) := by decide +kernel
theorem dX1_init_56 : decode cX1_init 56 = .ok (.iload_n 1, 1) := by decide +kernel
theorem dX1_init_57 : decode cX1_init 57 = .ok (.iconst 1, 1) := by decide +kernel
theorem dX1_init_58 : decode cX1_init 58 = .ok (.iload_n 1, 1) := by decide +kernel
theorem dX1_init_59 : decode cX1_init 59 = .ok (.iconst 4, 1) := by decide +kernel
theorem dX1_init_60 : decode cX1_init 60 = .ok (.irem, 1) := by decide +kernel
theorem dX1_init_61 : decode cX1_init 61 = .ok (.iadd, 1) := by decide +kernel
theorem dX1_init_62 : decode cX1_init 62 = .ok (.iastore, 1) := by decide +kernel
theorem dX1_init_63 : decode cX1_init 63 = .ok (.iinc 1 1, 3) := by decide +kernel
theorem dX1_init_66 : decode cX1_init 66 = .ok (.goto (-46), 3) := by decide +kernel
theorem dX1_init_69 : decode cX1_init 69 = .ok (.return_, 1) := by decide +kernel
theorem dX1_maskOf_0 : decode cX1_maskOf 0 = .ok (.iload_n 1, 1) := by decide +kernel
theorem dX1_maskOf_1 : decode cX1_maskOf 1 = .ok (.ifCond .lt 17, 3) := by decide +kernel
theorem dX1_maskOf_4 : decode cX1_maskOf 4 = .ok (.iload_n 1, 1) := by decide +kernel
theorem dX1_maskOf_5 : decode cX1_maskOf 5 = .ok (.iconst 5, 1) := by decide +kernel
theorem dX1_maskOf_6 : decode cX1_maskOf 6 = .ok (.if_icmp .ge 12, 3) := by decide +kernel
theorem dX1_maskOf_9 : decode cX1_maskOf 9 = .ok (.aload_n 0, 1) := by decide +kernel
theorem dX1_maskOf_10 : decode cX1_maskOf 10 = .ok (.getfield 9, 3) := by decide +kernel
theorem dX1_maskOf_13 : decode cX1_maskOf 13 = .ok (.iload_n 1, 1) := by decide +kernel
theorem dX1_maskOf_14 : decode cX1_maskOf 14 = .ok (.iaload, 1) := by decide +kernel
theorem dX1_maskOf_15 : decode cX1_maskOf 15 = .ok (.goto 4, 3) := by decide +kernel
theorem dX1_maskOf_18 : decode cX1_maskOf 18 = .ok (.iconst 0, 1) := by decide +kernel
theorem dX1_maskOf_19 : decode cX1_maskOf 19 = .ok (.ireturn, 1) := by decide +kernel
theorem dX1_strengthOf_0 : decode cX1_strengthOf 0 = .ok (.iload_n 1, 1) := by decide +kernel
theorem dX1_strengthOf_1 : decode cX1_strengthOf 1 = .ok (.ifCond .lt 17, 3) := by decide +kernel
theorem dX1_strengthOf_4 : decode cX1_strengthOf 4 = .ok (.iload_n 1, 1) := by decide +kernel
theorem dX1_strengthOf_5 : decode cX1_strengthOf 5 = .ok (.iconst 5, 1) := by decide +kernel
theorem dX1_strengthOf_6 : decode cX1_strengthOf 6 = .ok (.if_icmp .ge 12, 3) := by decide +kernel
theorem dX1_strengthOf_9 : decode cX1_strengthOf 9 = .ok (.aload_n 0, 1) := by decide +kernel
theorem dX1_strengthOf_10 : decode cX1_strengthOf 10 = .ok (.getfield 15, 3) := by decide +kernel
theorem dX1_strengthOf_13 : decode cX1_strengthOf 13 = .ok (.iload_n 1, 1) := by decide +kernel
theorem dX1_strengthOf_14 : decode cX1_strengthOf 14 = .ok (.iaload, 1) := by decide +kernel
theorem dX1_strengthOf_15 : decode cX1_strengthOf 15 = .ok (.goto 4, 3) := by decide +kernel
theorem dX1_strengthOf_18 : decode cX1_strengthOf 18 = .ok (.iconst 0, 1) := by decide +kernel
theorem dX1_strengthOf_19 : decode cX1_strengthOf 19 = .ok (.ireturn, 1) := by decide +kernel
theorem dX1_shape_0 : decode cX1_shape 0 = .ok (.iload_n 1, 1) := by decide +kernel
theorem dX1_shape_1 : decode cX1_shape 1 = .ok (.ifCond .lt 22, 3) := by decide +kernel
theorem dX1_shape_4 : decode cX1_shape 4 = .ok (.iload_n 1, 1) := by decide +kernel
theorem dX1_shape_5 : decode cX1_shape 5 = .ok (.iconst 5, 1) := by decide +kernel
theorem dX1_shape_6 : decode cX1_shape 6 = .ok (.if_icmp .ge 17, 3) := by decide +kernel
theorem dX1_shape_9 : decode cX1_shape 9 = .ok (.aload_n 0, 1) := by decide +kernel
theorem dX1_shape_10 : decode cX1_shape 10 = .ok (.getfield 9, 3) := by decide +kernel
theorem dX1_shape_13 : decode cX1_shape 13 = .ok (.iload_n 1, 1) := by decide +kernel
theorem dX1_shape_14 : decode cX1_shape 14 = .ok (.iload_n 2, 1) := by decide +kernel
theorem dX1_shape_15 : decode cX1_shape 15 = .ok (.iastore, 1) := by decide +kernel
theorem dX1_shape_16 : decode cX1_shape 16 = .ok (.aload_n 0, 1) := by decide +kernel
theorem dX1_shape_17 : decode cX1_shape 17 = .ok (.getfield 15, 3) := by decide +kernel
theorem dX1_shape_20 : decode cX1_shape 20 = .ok (.iload_n 1, 1) := by decide +kernel
theorem dX1_shape_21 : decode cX1_shape 21 = .ok (.iload_n 3, 1) := by decide +kernel
theorem dX1_shape_22 : decode cX1_shape 22 = .ok (.iastore, 1) := by decide +kernel
theorem dX1_shape_23 : decode cX1_shape 23 = .ok (.return_, 1) := by decide +kernel
theorem dX1_keysAt_0 : decode cX1_keysAt 0 = .ok (.iconst 0, 1) := by decide +kernel
theorem dX1_keysAt_1 : decode cX1_keysAt 1 = .ok (.istore_n 2, 1) := by decide +kernel
theorem dX1_keysAt_2 : decode cX1_keysAt 2 = .ok (.iconst 0, 1) := by decide +kernel
theorem dX1_keysAt_3 : decode cX1_keysAt 3 = .ok (.istore_n 3, 1) := by decide +kernel
theorem dX1_keysAt_4 : decode cX1_keysAt 4 = .ok (.iload_n 3, 1) := by decide +kernel
theorem dX1_keysAt_5 : decode cX1_keysAt 5 = .ok (.iconst 5, 1) := by decide +kernel
theorem dX1_keysAt_6 : decode cX1_keysAt 6 = .ok (.if_icmp .ge 29, 3) := by decide +kernel
theorem dX1_keysAt_9 : decode cX1_keysAt 9 = .ok (.aload_n 0, 1) := by decide +kernel
theorem dX1_keysAt_10 : decode cX1_keysAt 10 = .ok (.getfield 9, 3) := by decide +kernel
theorem dX1_keysAt_13 : decode cX1_keysAt 13 = .ok (.iload_n 3, 1) := by decide +kernel
theorem dX1_keysAt_14 : decode cX1_keysAt 14 = .ok (.iaload, 1) := by decide +kernel
theorem dX1_keysAt_15 : decode cX1_keysAt 15 = .ok (.iload_n 1, 1) := by decide +kernel
theorem dX1_keysAt_16 : decode cX1_keysAt 16 = .ok (.ishr, 1) := by decide +kernel
theorem dX1_keysAt_17 : decode cX1_keysAt 17 = .ok (.iconst 1, 1) := by decide +kernel
theorem dX1_keysAt_18 : decode cX1_keysAt 18 = .ok (.iand, 1) := by decide +kernel
theorem dX1_keysAt_19 : decode cX1_keysAt 19 = .ok (.iconst 1, 1) := by decide +kernel
theorem dX1_keysAt_20 : decode cX1_keysAt 20 = .ok (.if_icmp .ne 9, 3) := by decide +kernel
theorem dX1_keysAt_23 : decode cX1_keysAt 23 = .ok (.iload_n 2, 1) := by decide +kernel
theorem dX1_keysAt_24 : decode cX1_keysAt 24 = .ok (.iconst 1, 1) := by decide +kernel
theorem dX1_keysAt_25 : decode cX1_keysAt 25 = .ok (.iload_n 3, 1) := by decide +kernel
theorem dX1_keysAt_26 : decode cX1_keysAt 26 = .ok (.ishl, 1) := by decide +kernel
theorem dX1_keysAt_27 : decode cX1_keysAt 27 = .ok (.ior, 1) := by decide +kernel
theorem dX1_keysAt_28 : decode cX1_keysAt 28 = .ok (.istore_n 2, 1) := by decide +kernel
theorem dX1_keysAt_29 : decode cX1_keysAt 29 = .ok (.iinc 3 1, 3) := by decide +kernel
theorem dX1_keysAt_32 : decode cX1_keysAt 32 = .ok (.goto (-28), 3) := by decide +kernel
theorem dX1_keysAt_35 : decode cX1_keysAt 35 = .ok (.iload_n 2, 1) := by decide +kernel
theorem dX1_keysAt_36 : decode cX1_keysAt 36 = .ok (.ireturn, 1) := by decide +kernel
theorem dX1_move_0 : decode cX1_move 0 = .ok (.iload_n 2, 1) := by decide +kernel
theorem dX1_move_1 : decode cX1_move 1 = .ok (.invokestatic 18, 3) := by decide +kernel
theorem dX1_move_4 : decode cX1_move 4 = .ok (.istore_n 3, 1) := by decide +kernel
theorem dX1_move_5 : decode cX1_move 5 = .ok (.aload_n 1, 1) := by decide +kernel
theorem dX1_move_6 : decode cX1_move 6 = .ok (.aload_n 0, 1) := by decide +kernel
theorem dX1_move_7 : decode cX1_move 7 = .ok (.iload_n 3, 1) := by decide +kernel
theorem dX1_move_8 : decode cX1_move 8 = .ok (.invokevirtual 22, 3) := by decide +kernel
theorem dX1_move_11 : decode cX1_move 11 = .ok (.aload_n 0, 1) := by decide +kernel
theorem dX1_move_12 : decode cX1_move 12 = .ok (.iload_n 3, 1) := by decide +kernel
theorem dX1_move_13 : decode cX1_move 13 = .ok (.invokevirtual 25, 3) := by decide +kernel
theorem dX1_move_16 : decode cX1_move 16 = .ok (.iload_n 2, 1) := by decide +kernel
theorem dX1_move_17 : decode cX1_move 17 = .ok (.invokestatic 28, 3) := by decide +kernel
theorem dX1_move_20 : decode cX1_move 20 = .ok (.invokevirtual 32, 3) := by decide +kernel
theorem dX1_move_23 : decode cX1_move 23 = .ok (.return_, 1) := by decide +kernel
theorem dX1_notchesBy_0 : decode cX1_notchesBy 0 = .ok (.iload_n 1, 1) := by decide +kernel
theorem dX1_notchesBy_1 : decode cX1_notchesBy 1 = .ok (.invokestatic 18, 3) := by decide +kernel
theorem dX1_notchesBy_4 : decode cX1_notchesBy 4 = .ok (.istore_n 2, 1) := by decide +kernel
theorem dX1_notchesBy_5 : decode cX1_notchesBy 5 = .ok (.aload_n 0, 1) := by decide +kernel
theorem dX1_notchesBy_6 : decode cX1_notchesBy 6 = .ok (.iload_n 2, 1) := by decide +kernel
theorem dX1_notchesBy_7 : decode cX1_notchesBy 7 = .ok (.invokevirtual 25, 3) := by decide +kernel
theorem dX1_notchesBy_10 : decode cX1_notchesBy 10 = .ok (.aload_n 0, 1) := by decide +kernel
theorem dX1_notchesBy_11 : decode cX1_notchesBy 11 = .ok (.iload_n 2, 1) := by decide +kernel
theorem dX1_notchesBy_12 : decode cX1_notchesBy 12 = .ok (.invokevirtual 22, 3) := by decide +kernel
theorem dX1_notchesBy_15 : decode cX1_notchesBy 15 = .ok (.invokestatic 38, 3) := by decide +kernel
theorem dX1_notchesBy_18 : decode cX1_notchesBy 18 = .ok (.imul, 1) := by decide +kernel
theorem dX1_notchesBy_19 : decode cX1_notchesBy 19 = .ok (.istore_n 3, 1) := by decide +kernel
theorem dX1_notchesBy_20 : decode cX1_notchesBy 20 = .ok (.iload_n 1, 1) := by decide +kernel
theorem dX1_notchesBy_21 : decode cX1_notchesBy 21 = .ok (.invokestatic 28, 3) := by decide +kernel
theorem dX1_notchesBy_24 : decode cX1_notchesBy 24 = .ok (.ifCond .eq 8, 3) := by decide +kernel
theorem dX1_notchesBy_27 : decode cX1_notchesBy 27 = .ok (.iload_n 3, 1) := by decide +kernel
theorem dX1_notchesBy_28 : decode cX1_notchesBy 28 = .ok (.ineg, 1) := by decide +kernel
theorem dX1_notchesBy_29 : decode cX1_notchesBy 29 = .ok (.goto 4, 3) := by decide +kernel
theorem dX1_notchesBy_32 : decode cX1_notchesBy 32 = .ok (.iload_n 3, 1) := by decide +kernel
theorem dX1_notchesBy_33 : decode cX1_notchesBy 33 = .ok (.ireturn, 1) := by decide +kernel
theorem dX1_copyFrom_0 : decode cX1_copyFrom 0 = .ok (.iconst 0, 1) := by decide +kernel
theorem dX1_copyFrom_1 : decode cX1_copyFrom 1 = .ok (.istore_n 2, 1) := by decide +kernel
theorem dX1_copyFrom_2 : decode cX1_copyFrom 2 = .ok (.iload_n 2, 1) := by decide +kernel
theorem dX1_copyFrom_3 : decode cX1_copyFrom 3 = .ok (.iconst 5, 1) := by decide +kernel
theorem dX1_copyFrom_4 : decode cX1_copyFrom 4 = .ok (.if_icmp .ge 33, 3) := by decide +kernel
theorem dX1_copyFrom_7 : decode cX1_copyFrom 7 = .ok (.aload_n 0, 1) := by decide +kernel
theorem dX1_copyFrom_8 : decode cX1_copyFrom 8 = .ok (.getfield 9, 3) := by decide +kernel
theorem dX1_copyFrom_11 : decode cX1_copyFrom 11 = .ok (.iload_n 2, 1) := by decide +kernel
theorem dX1_copyFrom_12 : decode cX1_copyFrom 12 = .ok (.aload_n 1, 1) := by decide +kernel
theorem dX1_copyFrom_13 : decode cX1_copyFrom 13 = .ok (.getfield 9, 3) := by decide +kernel
theorem dX1_copyFrom_16 : decode cX1_copyFrom 16 = .ok (.iload_n 2, 1) := by decide +kernel
theorem dX1_copyFrom_17 : decode cX1_copyFrom 17 = .ok (.iaload, 1) := by decide +kernel
theorem dX1_copyFrom_18 : decode cX1_copyFrom 18 = .ok (.iastore, 1) := by decide +kernel
theorem dX1_copyFrom_19 : decode cX1_copyFrom 19 = .ok (.aload_n 0, 1) := by decide +kernel
theorem dX1_copyFrom_20 : decode cX1_copyFrom 20 = .ok (.getfield 15, 3) := by decide +kernel
theorem dX1_copyFrom_23 : decode cX1_copyFrom 23 = .ok (.iload_n 2, 1) := by decide +kernel
theorem dX1_copyFrom_24 : decode cX1_copyFrom 24 = .ok (.aload_n 1, 1) := by decide +kernel
theorem dX1_copyFrom_25 : decode cX1_copyFrom 25 = .ok (.getfield 15, 3) := by decide +kernel
theorem dX1_copyFrom_28 : decode cX1_copyFrom 28 = .ok (.iload_n 2, 1) := by decide +kernel
theorem dX1_copyFrom_29 : decode cX1_copyFrom 29 = .ok (.iaload, 1) := by decide +kernel
theorem dX1_copyFrom_30 : decode cX1_copyFrom 30 = .ok (.iastore, 1) := by decide +kernel
theorem dX1_copyFrom_31 : decode cX1_copyFrom 31 = .ok (.iinc 2 1, 3) := by decide +kernel
theorem dX1_copyFrom_34 : decode cX1_copyFrom 34 = .ok (.goto (-32), 3) := by decide +kernel
theorem dX1_copyFrom_37 : decode cX1_copyFrom 37 = .ok (.return_, 1) := by decide +kernel
theorem dX2_init_0 : decode cX2_init 0 = .ok (.aload_n 0, 1) := by decide +kernel
theorem dX2_init_1 : decode cX2_init 1 = .ok (.invokespecial 3, 3) := by decide +kernel
theorem dX2_init_4 : decode cX2_init 4 = .ok (.aload_n 0, 1) := by decide +kernel
theorem dX2_init_5 : decode cX2_init 5 = .ok (.bipush 111, 2) := by decide +kernel
theorem dX2_init_7 : decode cX2_init 7 = .ok (.newarray .int, 2) := by decide +kernel
theorem dX2_init_9 : decode cX2_init 9 = .ok (.putfield 9, 3) := by decide +kernel
theorem dX2_init_12 : decode cX2_init 12 = .ok (.aload_n 0, 1) := by decide +kernel
theorem dX2_init_13 : decode cX2_init 13 = .ok (.bipush 111, 2) := by decide +kernel
theorem dX2_init_15 : decode cX2_init 15 = .ok (.newarray .int, 2) := by decide +kernel
theorem dX2_init_17 : decode cX2_init 17 = .ok (.putfield 15, 3) := by decide +kernel
theorem dX2_init_20 : decode cX2_init 20 = .ok (.aload_n 0, 1) := by decide +kernel
theorem dX2_init_21 : decode cX2_init 21 = .ok (.iconst 0, 1) := by decide +kernel
theorem dX2_init_22 : decode cX2_init 22 = .ok (.putfield 18, 3) := by decide +kernel
theorem dX2_init_25 : decode cX2_init 25 = .ok (.aload_n 0, 1) := by decide +kernel
theorem dX2_init_26 : decode cX2_init 26 = .ok (.new 22, 3) := by decide +kernel
theorem dX2_init_29 : decode cX2_init 29 = .ok (.dup, 1) := by decide +kernel
theorem dX2_init_30 : decode cX2_init 30 = .ok (.invokespecial 24, 3) := by decide +kernel
theorem dX2_init_33 : decode cX2_init 33 = .ok (.putfield 25, 3) := by decide +kernel
theorem dX2_init_36 : decode cX2_init 36 = .ok (.aload_n 0, 1) := by decide +kernel
theorem dX2_init_37 : decode cX2_init 37 = .ok (.new 22, 3) := by decide +kernel
theorem dX2_init_40 : decode cX2_init 40 = .ok (.dup, 1) := by decide +kernel
theorem dX2_init_41 : decode cX2_init 41 = .ok (.invokespecial 24, 3) := by decide +kernel
theorem dX2_init_44 : decode cX2_init 44 = .ok (.putfield 29, 3) := by decide +kernel
theorem dX2_init_47 : decode cX2_init 47 = .ok (.aload_n 0, 1) := by decide +kernel
theorem dX2_init_48 : decode cX2_init 48 = .ok (.iconst (-1), 1) := by decide +kernel
theorem dX2_init_49 : decode cX2_init 49 = .ok (.putfield 32, 3) := by decide +kernel
theorem dX2_init_52 : decode cX2_init 52 = .ok (.aload_n 0, 1) := by decide +kernel
theorem dX2_init_53 : decode cX2_init 53 = .ok (.iconst (-1), 1) := by decide +kernel
theorem dX2_init_54 : decode cX2_init 54 = .ok (.putfield 35, 3) := by decide +kernel
theorem dX2_init_57 : decode cX2_init 57 = .ok (.return_, 1) := by decide +kernel
theorem dX2_search_0 : decode cX2_search 0 = .ok (.aload_n 0, 1) := by decide +kernel
theorem dX2_search_1 : decode cX2_search 1 = .ok (.iconst (-1), 1) := by decide +kernel
theorem dX2_search_2 : decode cX2_search 2 = .ok (.putfield 32, 3) := by decide +kernel
theorem dX2_search_5 : decode cX2_search 5 = .ok (.aload_n 0, 1) := by decide +kernel
theorem dX2_search_6 : decode cX2_search 6 = .ok (.iconst (-1), 1) := by decide +kernel
theorem dX2_search_7 : decode cX2_search 7 = .ok (.putfield 35, 3) := by decide +kernel
theorem dX2_search_10 : decode cX2_search 10 = .ok (.aload_n 1, 1) := by decide +kernel
theorem dX2_search_11 : decode cX2_search 11 = .ok (.getfield 38, 3) := by decide +kernel
theorem dX2_search_14 : decode cX2_search 14 = .ok (.ifCond .ne 4, 3) := by decide +kernel
theorem dX2_search_17 : decode cX2_search 17 = .ok (.return_, 1) := by decide +kernel
theorem dX2_search_18 : decode cX2_search 18 = .ok (.aload_n 1, 1) := by decide +kernel
theorem dX2_search_19 : decode cX2_search 19 = .ok (.invokevirtual 44, 3) := by decide +kernel
theorem dX2_search_22 : decode cX2_search 22 = .ok (.ifCond .eq 9, 3) := by decide +kernel
theorem dX2_search_25 : decode cX2_search 25 = .ok (.aload_n 0, 1) := by decide +kernel
theorem dX2_search_26 : decode cX2_search 26 = .ok (.iconst 0, 1) := by decide +kernel
theorem dX2_search_27 : decode cX2_search 27 = .ok (.putfield 32, 3) := by decide +kernel
theorem dX2_search_30 : decode cX2_search 30 = .ok (.return_, 1) := by decide +kernel
theorem dX2_search_31 : decode cX2_search 31 = .ok (.aload_n 0, 1) := by decide +kernel
theorem dX2_search_32 : decode cX2_search 32 = .ok (.aload_n 1, 1) := by decide +kernel
theorem dX2_search_33 : decode cX2_search 33 = .ok (.invokevirtual 48, 3) := by decide +kernel
theorem dX2_search_36 : decode cX2_search 36 = .ok (.iconst 0, 1) := by decide +kernel
theorem dX2_search_37 : decode cX2_search 37 = .ok (.istore_n 2, 1) := by decide +kernel
theorem dX2_search_38 : decode cX2_search 38 = .ok (.iload_n 2, 1) := by decide +kernel
theorem dX2_search_39 : decode cX2_search 39 = .ok (.bipush 10, 2) := by decide +kernel
theorem dX2_search_41 : decode cX2_search 41 = .ok (.if_icmp .ge 23, 3) := by decide +kernel
theorem dX2_search_44 : decode cX2_search 44 = .ok (.aload_n 1, 1) := by decide +kernel
theorem dX2_search_45 : decode cX2_search 45 = .ok (.iload_n 2, 1) := by decide +kernel
theorem dX2_search_46 : decode cX2_search 46 = .ok (.invokevirtual 52, 3) := by decide +kernel
theorem dX2_search_49 : decode cX2_search 49 = .ok (.ifCond .eq 9, 3) := by decide +kernel
theorem dX2_search_52 : decode cX2_search 52 = .ok (.aload_n 0, 1) := by decide +kernel
theorem dX2_search_53 : decode cX2_search 53 = .ok (.aload_n 1, 1) := by decide +kernel
theorem dX2_search_54 : decode cX2_search 54 = .ok (.iload_n 2, 1) := by decide +kernel
theorem dX2_search_55 : decode cX2_search 55 = .ok (.invokevirtual 56, 3) := by decide +kernel
theorem dX2_search_58 : decode cX2_search 58 = .ok (.iinc 2 1, 3) := by decide +kernel
theorem dX2_search_61 : decode cX2_search 61 = .ok (.goto (-23), 3) := by decide +kernel
theorem dX2_search_64 : decode cX2_search 64 = .ok (.return_, 1) := by decide +kernel
theorem dX2_tryFirst_0 : decode cX2_tryFirst 0 = .ok (.aload_n 0, 1) := by decide +kernel
theorem dX2_tryFirst_1 : decode cX2_tryFirst 1 = .ok (.getfield 25, 3) := by decide +kernel
theorem dX2_tryFirst_4 : decode cX2_tryFirst 4 = .ok (.aload_n 1, 1) := by decide +kernel
theorem dX2_tryFirst_5 : decode cX2_tryFirst 5 = .ok (.getfield 60, 3) := by decide +kernel
theorem dX2_tryFirst_8 : decode cX2_tryFirst 8 = .ok (.invokevirtual 63, 3) := by decide +kernel
theorem dX2_tryFirst_11 : decode cX2_tryFirst 11 = .ok (.aload_n 1, 1) := by decide +kernel
theorem dX2_tryFirst_12 : decode cX2_tryFirst 12 = .ok (.getfield 67, 3) := by decide +kernel
theorem dX2_tryFirst_15 : decode cX2_tryFirst 15 = .ok (.aload_n 0, 1) := by decide +kernel
theorem dX2_tryFirst_16 : decode cX2_tryFirst 16 = .ok (.getfield 25, 3) := by decide +kernel
theorem dX2_tryFirst_19 : decode cX2_tryFirst 19 = .ok (.iload_n 2, 1) := by decide +kernel
theorem dX2_tryFirst_20 : decode cX2_tryFirst 20 = .ok (.invokevirtual 71, 3) := by decide +kernel
theorem dX2_tryFirst_23 : decode cX2_tryFirst 23 = .ok (.aload_n 0, 1) := by decide +kernel
theorem dX2_tryFirst_24 : decode cX2_tryFirst 24 = .ok (.aload_n 0, 1) := by decide +kernel
theorem dX2_tryFirst_25 : decode cX2_tryFirst 25 = .ok (.getfield 25, 3) := by decide +kernel
theorem dX2_tryFirst_28 : decode cX2_tryFirst 28 = .ok (.invokevirtual 77, 3) := by decide +kernel
theorem dX2_tryFirst_31 : decode cX2_tryFirst 31 = .ok (.istore_n 3, 1) := by decide +kernel
theorem dX2_tryFirst_32 : decode cX2_tryFirst 32 = .ok (.iload_n 3, 1) := by decide +kernel
theorem dX2_tryFirst_33 : decode cX2_tryFirst 33 = .ok (.iconst (-1), 1) := by decide +kernel
theorem dX2_tryFirst_34 : decode cX2_tryFirst 34 = .ok (.if_icmp .ne 21, 3) := by decide +kernel
theorem dX2_tryFirst_37 : decode cX2_tryFirst 37 = .ok (.aload_n 0, 1) := by decide +kernel
theorem dX2_tryFirst_38 : decode cX2_tryFirst 38 = .ok (.getfield 32, 3) := by decide +kernel
theorem dX2_tryFirst_41 : decode cX2_tryFirst 41 = .ok (.iconst (-1), 1) := by decide +kernel
theorem dX2_tryFirst_42 : decode cX2_tryFirst 42 = .ok (.if_icmp .ne 13, 3) := by decide +kernel
theorem dX2_tryFirst_45 : decode cX2_tryFirst 45 = .ok (.aload_n 0, 1) := by decide +kernel
theorem dX2_tryFirst_46 : decode cX2_tryFirst 46 = .ok (.aload_n 1, 1) := by decide +kernel
theorem dX2_tryFirst_47 : decode cX2_tryFirst 47 = .ok (.invokevirtual 81, 3) := by decide +kernel
theorem dX2_tryFirst_50 : decode cX2_tryFirst 50 = .ok (.ifCond .eq 5, 3) := by decide +kernel
theorem dX2_tryFirst_53 : decode cX2_tryFirst 53 = .ok (.iconst 3, 1) := by decide +kernel
theorem dX2_tryFirst_54 : decode cX2_tryFirst 54 = .ok (.istore_n 3, 1) := by decide +kernel
theorem dX2_tryFirst_55 : decode cX2_tryFirst 55 = .ok (.iload_n 3, 1) := by decide +kernel
theorem dX2_tryFirst_56 : decode cX2_tryFirst 56 = .ok (.iconst (-1), 1) := by decide +kernel
theorem dX2_tryFirst_57 : decode cX2_tryFirst 57 = .ok (.if_icmp .eq 33, 3) := by decide +kernel
theorem dX2_tryFirst_60 : decode cX2_tryFirst 60 = .ok (.aload_n 0, 1) := by decide +kernel
theorem dX2_tryFirst_61 : decode cX2_tryFirst 61 = .ok (.getfield 32, 3) := by decide +kernel
theorem dX2_tryFirst_64 : decode cX2_tryFirst 64 = .ok (.iconst (-1), 1) := by decide +kernel
theorem dX2_tryFirst_65 : decode cX2_tryFirst 65 = .ok (.if_icmp .eq 13, 3) := by decide +kernel
theorem dX2_tryFirst_68 : decode cX2_tryFirst 68 = .ok (.iload_n 3, 1) := by decide +kernel
theorem dX2_tryFirst_69 : decode cX2_tryFirst 69 = .ok (.iconst 1, 1) := by decide +kernel
theorem dX2_tryFirst_70 : decode cX2_tryFirst 70 = .ok (.iadd, 1) := by decide +kernel
theorem dX2_tryFirst_71 : decode cX2_tryFirst 71 = .ok (.aload_n 0, 1) := by decide +kernel
theorem dX2_tryFirst_72 : decode cX2_tryFirst 72 = .ok (.getfield 32, 3) := by decide +kernel
theorem dX2_tryFirst_75 : decode cX2_tryFirst 75 = .ok (.if_icmp .ge 15, 3) := by decide +kernel
theorem dX2_tryFirst_78 : decode cX2_tryFirst 78 = .ok (.aload_n 0, 1) := by decide +kernel
theorem dX2_tryFirst_79 : decode cX2_tryFirst 79 = .ok (.iload_n 3, 1) := by decide +kernel
theorem dX2_tryFirst_80 : decode cX2_tryFirst 80 = .ok (.iconst 1, 1) := by decide +kernel
theorem dX2_tryFirst_81 : decode cX2_tryFirst 81 = .ok (.iadd, 1) := by decide +kernel
theorem dX2_tryFirst_82 : decode cX2_tryFirst 82 = .ok (.putfield 32, 3) := by decide +kernel
theorem dX2_tryFirst_85 : decode cX2_tryFirst 85 = .ok (.aload_n 0, 1) := by decide +kernel
theorem dX2_tryFirst_86 : decode cX2_tryFirst 86 = .ok (.iload_n 2, 1) := by decide +kernel
theorem dX2_tryFirst_87 : decode cX2_tryFirst 87 = .ok (.putfield 35, 3) := by decide +kernel
theorem dX2_tryFirst_90 : decode cX2_tryFirst 90 = .ok (.return_, 1) := by decide +kernel
theorem dX2_meetsList_0 : decode cX2_meetsList 0 = .ok (.iconst 0, 1) := by decide +kernel
theorem dX2_meetsList_1 : decode cX2_meetsList 1 = .ok (.istore_n 2, 1) := by decide +kernel
theorem dX2_meetsList_2 : decode cX2_meetsList 2 = .ok (.iload_n 2, 1) := by decide +kernel
theorem dX2_meetsList_3 : decode cX2_meetsList 3 = .ok (.bipush 10, 2) := by decide +kernel
theorem dX2_meetsList_5 : decode cX2_meetsList 5 = .ok (.if_icmp .ge 54, 3) := by decide +kernel
theorem dX2_meetsList_8 : decode cX2_meetsList 8 = .ok (.aload_n 1, 1) := by decide +kernel
theorem dX2_meetsList_9 : decode cX2_meetsList 9 = .ok (.iload_n 2, 1) := by decide +kernel
theorem dX2_meetsList_10 : decode cX2_meetsList 10 = .ok (.invokevirtual 52, 3) := by decide +kernel
theorem dX2_meetsList_13 : decode cX2_meetsList 13 = .ok (.ifCond .eq 40, 3) := by decide +kernel
theorem dX2_meetsList_16 : decode cX2_meetsList 16 = .ok (.aload_n 0, 1) := by decide +kernel
theorem dX2_meetsList_17 : decode cX2_meetsList 17 = .ok (.getfield 29, 3) := by decide +kernel
theorem dX2_meetsList_20 : decode cX2_meetsList 20 = .ok (.aload_n 0, 1) := by decide +kernel
theorem dX2_meetsList_21 : decode cX2_meetsList 21 = .ok (.getfield 25, 3) := by decide +kernel
theorem dX2_meetsList_24 : decode cX2_meetsList 24 = .ok (.invokevirtual 63, 3) := by decide +kernel
theorem dX2_meetsList_27 : decode cX2_meetsList 27 = .ok (.aload_n 1, 1) := by decide +kernel
theorem dX2_meetsList_28 : decode cX2_meetsList 28 = .ok (.getfield 67, 3) := by decide +kernel
theorem dX2_meetsList_31 : decode cX2_meetsList 31 = .ok (.aload_n 0, 1) := by decide +kernel
theorem dX2_meetsList_32 : decode cX2_meetsList 32 = .ok (.getfield 29, 3) := by decide +kernel
theorem dX2_meetsList_35 : decode cX2_meetsList 35 = .ok (.iload_n 2, 1) := by decide +kernel
theorem dX2_meetsList_36 : decode cX2_meetsList 36 = .ok (.invokevirtual 71, 3) := by decide +kernel
theorem dX2_meetsList_39 : decode cX2_meetsList 39 = .ok (.aload_n 0, 1) := by decide +kernel
theorem dX2_meetsList_40 : decode cX2_meetsList 40 = .ok (.aload_n 0, 1) := by decide +kernel
theorem dX2_meetsList_41 : decode cX2_meetsList 41 = .ok (.getfield 29, 3) := by decide +kernel
theorem dX2_meetsList_44 : decode cX2_meetsList 44 = .ok (.invokevirtual 77, 3) := by decide +kernel
theorem dX2_meetsList_47 : decode cX2_meetsList 47 = .ok (.iconst (-1), 1) := by decide +kernel
theorem dX2_meetsList_48 : decode cX2_meetsList 48 = .ok (.if_icmp .eq 5, 3) := by decide +kernel
theorem dX2_meetsList_51 : decode cX2_meetsList 51 = .ok (.iconst 1, 1) := by decide +kernel
theorem dX2_meetsList_52 : decode cX2_meetsList 52 = .ok (.ireturn, 1) := by decide +kernel
theorem dX2_meetsList_53 : decode cX2_meetsList 53 = .ok (.iinc 2 1, 3) := by decide +kernel
theorem dX2_meetsList_56 : decode cX2_meetsList 56 = .ok (.goto (-54), 3) := by decide +kernel
theorem dX2_meetsList_59 : decode cX2_meetsList 59 = .ok (.iconst 0, 1) := by decide +kernel
theorem dX2_meetsList_60 : decode cX2_meetsList 60 = .ok (.ireturn, 1) := by decide +kernel
theorem dX2_listNear_0 : decode cX2_listNear 0 = .ok (.aload_n 0, 1) := by decide +kernel
theorem dX2_listNear_1 : decode cX2_listNear 1 = .ok (.iconst 0, 1) := by decide +kernel
theorem dX2_listNear_2 : decode cX2_listNear 2 = .ok (.putfield 18, 3) := by decide +kernel
theorem dX2_listNear_5 : decode cX2_listNear 5 = .ok (.aload_n 0, 1) := by decide +kernel
theorem dX2_listNear_6 : decode cX2_listNear 6 = .ok (.aload_n 1, 1) := by decide +kernel
theorem dX2_listNear_7 : decode cX2_listNear 7 = .ok (.getfield 85, 3) := by decide +kernel
theorem dX2_listNear_10 : decode cX2_listNear 10 = .ok (.iconst 0, 1) := by decide +kernel
theorem dX2_listNear_11 : decode cX2_listNear 11 = .ok (.invokevirtual 88, 3) := by decide +kernel
theorem dX2_listNear_14 : decode cX2_listNear 14 = .ok (.iconst 0, 1) := by decide +kernel
theorem dX2_listNear_15 : decode cX2_listNear 15 = .ok (.istore_n 2, 1) := by decide +kernel
theorem dX2_listNear_16 : decode cX2_listNear 16 = .ok (.iload_n 2, 1) := by decide +kernel
theorem dX2_listNear_17 : decode cX2_listNear 17 = .ok (.bipush 10, 2) := by decide +kernel
theorem dX2_listNear_19 : decode cX2_listNear 19 = .ok (.if_icmp .ge 49, 3) := by decide +kernel
theorem dX2_listNear_22 : decode cX2_listNear 22 = .ok (.aload_n 1, 1) := by decide +kernel
theorem dX2_listNear_23 : decode cX2_listNear 23 = .ok (.iload_n 2, 1) := by decide +kernel
theorem dX2_listNear_24 : decode cX2_listNear 24 = .ok (.invokevirtual 52, 3) := by decide +kernel
theorem dX2_listNear_27 : decode cX2_listNear 27 = .ok (.ifCond .eq 35, 3) := by decide +kernel
theorem dX2_listNear_30 : decode cX2_listNear 30 = .ok (.aload_n 0, 1) := by decide +kernel
theorem dX2_listNear_31 : decode cX2_listNear 31 = .ok (.getfield 25, 3) := by decide +kernel
theorem dX2_listNear_34 : decode cX2_listNear 34 = .ok (.aload_n 1, 1) := by decide +kernel
theorem dX2_listNear_35 : decode cX2_listNear 35 = .ok (.getfield 85, 3) := by decide +kernel
theorem dX2_listNear_38 : decode cX2_listNear 38 = .ok (.invokevirtual 63, 3) := by decide +kernel
theorem dX2_listNear_41 : decode cX2_listNear 41 = .ok (.aload_n 1, 1) := by decide +kernel
theorem dX2_listNear_42 : decode cX2_listNear 42 = .ok (.getfield 67, 3) := by decide +kernel
theorem dX2_listNear_45 : decode cX2_listNear 45 = .ok (.aload_n 0, 1) := by decide +kernel
theorem dX2_listNear_46 : decode cX2_listNear 46 = .ok (.getfield 25, 3) := by decide +kernel
theorem dX2_listNear_49 : decode cX2_listNear 49 = .ok (.iload_n 2, 1) := by decide +kernel
theorem dX2_listNear_50 : decode cX2_listNear 50 = .ok (.invokevirtual 71, 3) := by decide +kernel
theorem dX2_listNear_53 : decode cX2_listNear 53 = .ok (.aload_n 0, 1) := by decide +kernel
theorem dX2_listNear_54 : decode cX2_listNear 54 = .ok (.aload_n 0, 1) := by decide +kernel
theorem dX2_listNear_55 : decode cX2_listNear 55 = .ok (.getfield 25, 3) := by decide +kernel
theorem dX2_listNear_58 : decode cX2_listNear 58 = .ok (.iconst 1, 1) := by decide +kernel
theorem dX2_listNear_59 : decode cX2_listNear 59 = .ok (.invokevirtual 88, 3) := by decide +kernel
theorem dX2_listNear_62 : decode cX2_listNear 62 = .ok (.iinc 2 1, 3) := by decide +kernel
theorem dX2_listNear_65 : decode cX2_listNear 65 = .ok (.goto (-49), 3) := by decide +kernel
theorem dX2_listNear_68 : decode cX2_listNear 68 = .ok (.iconst 0, 1) := by decide +kernel
theorem dX2_listNear_69 : decode cX2_listNear 69 = .ok (.istore_n 2, 1) := by decide +kernel
theorem dX2_listNear_70 : decode cX2_listNear 70 = .ok (.iload_n 2, 1) := by decide +kernel
theorem dX2_listNear_71 : decode cX2_listNear 71 = .ok (.bipush 10, 2) := by decide +kernel
theorem dX2_listNear_73 : decode cX2_listNear 73 = .ok (.if_icmp .ge 45, 3) := by decide +kernel
theorem dX2_listNear_76 : decode cX2_listNear 76 = .ok (.aload_n 1, 1) := by decide +kernel
theorem dX2_listNear_77 : decode cX2_listNear 77 = .ok (.iload_n 2, 1) := by decide +kernel
theorem dX2_listNear_78 : decode cX2_listNear 78 = .ok (.invokevirtual 52, 3) := by decide +kernel
theorem dX2_listNear_81 : decode cX2_listNear 81 = .ok (.ifCond .eq 31, 3) := by decide +kernel
theorem dX2_listNear_84 : decode cX2_listNear 84 = .ok (.aload_n 0, 1) := by decide +kernel
theorem dX2_listNear_85 : decode cX2_listNear 85 = .ok (.getfield 25, 3) := by decide +kernel
theorem dX2_listNear_88 : decode cX2_listNear 88 = .ok (.aload_n 1, 1) := by decide +kernel
theorem dX2_listNear_89 : decode cX2_listNear 89 = .ok (.getfield 85, 3) := by decide +kernel
theorem dX2_listNear_92 : decode cX2_listNear 92 = .ok (.invokevirtual 63, 3) := by decide +kernel
theorem dX2_listNear_95 : decode cX2_listNear 95 = .ok (.aload_n 1, 1) := by decide +kernel
theorem dX2_listNear_96 : decode cX2_listNear 96 = .ok (.getfield 67, 3) := by decide +kernel
theorem dX2_listNear_99 : decode cX2_listNear 99 = .ok (.aload_n 0, 1) := by decide +kernel
theorem dX2_listNear_100 : decode cX2_listNear 100 = .ok (.getfield 25, 3) := by decide +kernel
theorem dX2_listNear_103 : decode cX2_listNear 103 = .ok (.iload_n 2, 1) := by decide +kernel
theorem dX2_listNear_104 : decode cX2_listNear 104 = .ok (.invokevirtual 71, 3) := by decide +kernel
theorem dX2_listNear_107 : decode cX2_listNear 107 = .ok (.aload_n 0, 1) := by decide +kernel
theorem dX2_listNear_108 : decode cX2_listNear 108 = .ok (.aload_n 1, 1) := by decide +kernel
theorem dX2_listNear_109 : decode cX2_listNear 109 = .ok (.invokevirtual 91, 3) := by decide +kernel
theorem dX2_listNear_112 : decode cX2_listNear 112 = .ok (.iinc 2 1, 3) := by decide +kernel
theorem dX2_listNear_115 : decode cX2_listNear 115 = .ok (.goto (-45), 3) := by decide +kernel
theorem dX2_listNear_118 : decode cX2_listNear 118 = .ok (.return_, 1) := by decide +kernel
theorem dX2_listBehindOne_0 : decode cX2_listBehindOne 0 = .ok (.iconst 0, 1) := by decide +kernel
theorem dX2_listBehindOne_1 : decode cX2_listBehindOne 1 = .ok (.istore_n 2, 1) := by decide +kernel
theorem dX2_listBehindOne_2 : decode cX2_listBehindOne 2 = .ok (.iload_n 2, 1) := by decide +kernel
theorem dX2_listBehindOne_3 : decode cX2_listBehindOne 3 = .ok (.bipush 10, 2) := by decide +kernel
theorem dX2_listBehindOne_5 : decode cX2_listBehindOne 5 = .ok (.if_icmp .ge 49, 3) := by decide +kernel
theorem dX2_listBehindOne_8 : decode cX2_listBehindOne 8 = .ok (.aload_n 1, 1) := by decide +kernel
theorem dX2_listBehindOne_9 : decode cX2_listBehindOne 9 = .ok (.iload_n 2, 1) := by decide +kernel
theorem dX2_listBehindOne_10 : decode cX2_listBehindOne 10 = .ok (.invokevirtual 52, 3) := by decide +kernel
theorem dX2_listBehindOne_13 : decode cX2_listBehindOne 13 = .ok (.ifCond .eq 35, 3) := by decide +kernel
theorem dX2_listBehindOne_16 : decode cX2_listBehindOne 16 = .ok (.aload_n 0, 1) := by decide +kernel
theorem dX2_listBehindOne_17 : decode cX2_listBehindOne 17 = .ok (.getfield 29, 3) := by decide +kernel
theorem dX2_listBehindOne_20 : decode cX2_listBehindOne 20 = .ok (.aload_n 0, 1) := by decide +kernel
theorem dX2_listBehindOne_21 : decode cX2_listBehindOne 21 = .ok (.getfield 25, 3) := by decide +kernel
theorem dX2_listBehindOne_24 : decode cX2_listBehindOne 24 = .ok (.invokevirtual 63, 3) := by decide +kernel
theorem dX2_listBehindOne_27 : decode cX2_listBehindOne 27 = .ok (.aload_n 1, 1) := by decide +kernel
theorem dX2_listBehindOne_28 : decode cX2_listBehindOne 28 = .ok (.getfield 67, 3) := by decide +kernel
theorem dX2_listBehindOne_31 : decode cX2_listBehindOne 31 = .ok (.aload_n 0, 1) := by decide +kernel
theorem dX2_listBehindOne_32 : decode cX2_listBehindOne 32 = .ok (.getfield 29, 3) := by decide +kernel
theorem dX2_listBehindOne_35 : decode cX2_listBehindOne 35 = .ok (.iload_n 2, 1) := by decide +kernel
theorem dX2_listBehindOne_36 : decode cX2_listBehindOne 36 = .ok (.invokevirtual 71, 3) := by decide +kernel
theorem dX2_listBehindOne_39 : decode cX2_listBehindOne 39 = .ok (.aload_n 0, 1) := by decide +kernel
theorem dX2_listBehindOne_40 : decode cX2_listBehindOne 40 = .ok (.aload_n 0, 1) := by decide +kernel
theorem dX2_listBehindOne_41 : decode cX2_listBehindOne 41 = .ok (.getfield 29, 3) := by decide +kernel
theorem dX2_listBehindOne_44 : decode cX2_listBehindOne 44 = .ok (.iconst 2, 1) := by decide +kernel
theorem dX2_listBehindOne_45 : decode cX2_listBehindOne 45 = .ok (.invokevirtual 88, 3) := by decide +kernel
theorem dX2_listBehindOne_48 : decode cX2_listBehindOne 48 = .ok (.iinc 2 1, 3) := by decide +kernel
theorem dX2_listBehindOne_51 : decode cX2_listBehindOne 51 = .ok (.goto (-49), 3) := by decide +kernel
theorem dX2_listBehindOne_54 : decode cX2_listBehindOne 54 = .ok (.return_, 1) := by decide +kernel
theorem dX2_list_0 : decode cX2_list 0 = .ok (.aload_n 0, 1) := by decide +kernel
theorem dX2_list_1 : decode cX2_list 1 = .ok (.getfield 18, 3) := by decide +kernel
theorem dX2_list_4 : decode cX2_list 4 = .ok (.ifCond .lt 45, 3) := by decide +kernel
theorem dX2_list_7 : decode cX2_list 7 = .ok (.aload_n 0, 1) := by decide +kernel
theorem dX2_list_8 : decode cX2_list 8 = .ok (.getfield 18, 3) := by decide +kernel
theorem dX2_list_11 : decode cX2_list 11 = .ok (.bipush 111, 2) := by decide +kernel
theorem dX2_list_13 : decode cX2_list 13 = .ok (.if_icmp .ge 36, 3) := by decide +kernel
theorem dX2_list_16 : decode cX2_list 16 = .ok (.aload_n 0, 1) := by decide +kernel
theorem dX2_list_17 : decode cX2_list 17 = .ok (.getfield 9, 3) := by decide +kernel
theorem dX2_list_20 : decode cX2_list 20 = .ok (.aload_n 0, 1) := by decide +kernel
theorem dX2_list_21 : decode cX2_list 21 = .ok (.getfield 18, 3) := by decide +kernel
theorem dX2_list_24 : decode cX2_list 24 = .ok (.aload_n 1, 1) := by decide +kernel
theorem dX2_list_25 : decode cX2_list 25 = .ok (.invokevirtual 94, 3) := by decide +kernel
theorem dX2_list_28 : decode cX2_list 28 = .ok (.iastore, 1) := by decide +kernel
theorem dX2_list_29 : decode cX2_list 29 = .ok (.aload_n 0, 1) := by decide +kernel
theorem dX2_list_30 : decode cX2_list 30 = .ok (.getfield 15, 3) := by decide +kernel
theorem dX2_list_33 : decode cX2_list 33 = .ok (.aload_n 0, 1) := by decide +kernel
theorem dX2_list_34 : decode cX2_list 34 = .ok (.getfield 18, 3) := by decide +kernel
theorem dX2_list_37 : decode cX2_list 37 = .ok (.iload_n 2, 1) := by decide +kernel
theorem dX2_list_38 : decode cX2_list 38 = .ok (.iastore, 1) := by decide +kernel
theorem dX2_list_39 : decode cX2_list 39 = .ok (.aload_n 0, 1) := by decide +kernel
theorem dX2_list_40 : decode cX2_list 40 = .ok (.dup, 1) := by decide +kernel
theorem dX2_list_41 : decode cX2_list 41 = .ok (.getfield 18, 3) := by decide +kernel
theorem dX2_list_44 : decode cX2_list 44 = .ok (.iconst 1, 1) := by decide +kernel
theorem dX2_list_45 : decode cX2_list 45 = .ok (.iadd, 1) := by decide +kernel
theorem dX2_list_46 : decode cX2_list 46 = .ok (.putfield 18, 3) := by decide +kernel
theorem dX2_list_49 : decode cX2_list 49 = .ok (.return_, 1) := by decide +kernel
theorem dX2_listedTurns_0 : decode cX2_listedTurns 0 = .ok (.aload_n 1, 1) := by decide +kernel
theorem dX2_listedTurns_1 : decode cX2_listedTurns 1 = .ok (.invokevirtual 94, 3) := by decide +kernel
theorem dX2_listedTurns_4 : decode cX2_listedTurns 4 = .ok (.istore_n 2, 1) := by decide +kernel
theorem dX2_listedTurns_5 : decode cX2_listedTurns 5 = .ok (.iconst 0, 1) := by decide +kernel
theorem dX2_listedTurns_6 : decode cX2_listedTurns 6 = .ok (.istore_n 3, 1) := by decide +kernel
theorem dX2_listedTurns_7 : decode cX2_listedTurns 7 = .ok (.iload_n 3, 1) := by decide +kernel
theorem dX2_listedTurns_8 : decode cX2_listedTurns 8 = .ok (.aload_n 0, 1) := by decide +kernel
theorem dX2_listedTurns_9 : decode cX2_listedTurns 9 = .ok (.getfield 18, 3) := by decide +kernel
theorem dX2_listedTurns_12 : decode cX2_listedTurns 12 = .ok (.if_icmp .ge 32, 3) := by decide +kernel
theorem dX2_listedTurns_15 : decode cX2_listedTurns 15 = .ok (.iload_n 3, 1) := by decide +kernel
theorem dX2_listedTurns_16 : decode cX2_listedTurns 16 = .ok (.bipush 111, 2) := by decide +kernel
theorem dX2_listedTurns_18 : decode cX2_listedTurns 18 = .ok (.if_icmp .ge 26, 3) := by decide +kernel
theorem dX2_listedTurns_21 : decode cX2_listedTurns 21 = .ok (.aload_n 0, 1) := by decide +kernel
theorem dX2_listedTurns_22 : decode cX2_listedTurns 22 = .ok (.getfield 9, 3) := by decide +kernel
theorem dX2_listedTurns_25 : decode cX2_listedTurns 25 = .ok (.iload_n 3, 1) := by decide +kernel
theorem dX2_listedTurns_26 : decode cX2_listedTurns 26 = .ok (.iaload, 1) := by decide +kernel
theorem dX2_listedTurns_27 : decode cX2_listedTurns 27 = .ok (.iload_n 2, 1) := by decide +kernel
theorem dX2_listedTurns_28 : decode cX2_listedTurns 28 = .ok (.if_icmp .ne 10, 3) := by decide +kernel
theorem dX2_listedTurns_31 : decode cX2_listedTurns 31 = .ok (.aload_n 0, 1) := by decide +kernel
theorem dX2_listedTurns_32 : decode cX2_listedTurns 32 = .ok (.getfield 15, 3) := by decide +kernel
theorem dX2_listedTurns_35 : decode cX2_listedTurns 35 = .ok (.iload_n 3, 1) := by decide +kernel
theorem dX2_listedTurns_36 : decode cX2_listedTurns 36 = .ok (.iaload, 1) := by decide +kernel
theorem dX2_listedTurns_37 : decode cX2_listedTurns 37 = .ok (.ireturn, 1) := by decide +kernel
theorem dX2_listedTurns_38 : decode cX2_listedTurns 38 = .ok (.iinc 3 1, 3) := by decide +kernel
theorem dX2_listedTurns_41 : decode cX2_listedTurns 41 = .ok (.goto (-34), 3) := by decide +kernel
theorem dX2_listedTurns_44 : decode cX2_listedTurns 44 = .ok (.iconst (-1), 1) := by decide +kernel
theorem dX2_listedTurns_45 : decode cX2_listedTurns 45 = .ok (.ireturn, 1) := by decide +kernel
theorem dX3_init_0 : decode cX3_init 0 = .ok (.aload_n 0, 1) := by decide +kernel
theorem dX3_init_1 : decode cX3_init 1 = .ok (.invokespecial 3, 3) := by decide +kernel
theorem dX3_init_4 : decode cX3_init 4 = .ok (.aload_n 0, 1) := by decide +kernel
theorem dX3_init_5 : decode cX3_init 5 = .ok (.new 9, 3) := by decide +kernel
theorem dX3_init_8 : decode cX3_init 8 = .ok (.dup, 1) := by decide +kernel
theorem dX3_init_9 : decode cX3_init 9 = .ok (.invokespecial 11, 3) := by decide +kernel
theorem dX3_init_12 : decode cX3_init 12 = .ok (.putfield 12, 3) := by decide +kernel
theorem dX3_init_15 : decode cX3_init 15 = .ok (.aload_n 0, 1) := by decide +kernel
theorem dX3_init_16 : decode cX3_init 16 = .ok (.new 18, 3) := by decide +kernel
theorem dX3_init_19 : decode cX3_init 19 = .ok (.dup, 1) := by decide +kernel
theorem dX3_init_20 : decode cX3_init 20 = .ok (.invokespecial 20, 3) := by decide +kernel
theorem dX3_init_23 : decode cX3_init 23 = .ok (.putfield 21, 3) := by decide +kernel
theorem dX3_init_26 : decode cX3_init 26 = .ok (.aload_n 0, 1) := by decide +kernel
theorem dX3_init_27 : decode cX3_init 27 = .ok (.new 9, 3) := by decide +kernel
theorem dX3_init_30 : decode cX3_init 30 = .ok (.dup, 1) := by decide +kernel
theorem dX3_init_31 : decode cX3_init 31 = .ok (.invokespecial 11, 3) := by decide +kernel
theorem dX3_init_34 : decode cX3_init 34 = .ok (.putfield 25, 3) := by decide +kernel
theorem dX3_init_37 : decode cX3_init 37 = .ok (.aload_n 0, 1) := by decide +kernel
theorem dX3_init_38 : decode cX3_init 38 = .ok (.iconst 0, 1) := by decide +kernel
theorem dX3_init_39 : decode cX3_init 39 = .ok (.putfield 28, 3) := by decide +kernel
theorem dX3_init_42 : decode cX3_init 42 = .ok (.aload_n 0, 1) := by decide +kernel
theorem dX3_init_43 : decode cX3_init 43 = .ok (.iconst 0, 1) := by decide +kernel
theorem dX3_init_44 : decode cX3_init 44 = .ok (.putfield 32, 3) := by decide +kernel
theorem dX3_init_47 : decode cX3_init 47 = .ok (.aload_n 0, 1) := by decide +kernel
theorem dX3_init_48 : decode cX3_init 48 = .ok (.iconst 5, 1) := by decide +kernel
theorem dX3_init_49 : decode cX3_init 49 = .ok (.newarray .int, 2) := by decide +kernel
theorem dX3_init_51 : decode cX3_init 51 = .ok (.putfield 36, 3) := by decide +kernel
theorem dX3_init_54 : decode cX3_init 54 = .ok (.aload_n 0, 1) := by decide +kernel
theorem dX3_init_55 : decode cX3_init 55 = .ok (.iconst 0, 1) := by decide +kernel
theorem dX3_init_56 : decode cX3_init 56 = .ok (.putfield 40, 3) := by decide +kernel
theorem dX3_init_59 : decode cX3_init 59 = .ok (.aload_n 0, 1) := by decide +kernel
theorem dX3_init_60 : decode cX3_init 60 = .ok (.iconst 0, 1) := by decide +kernel
theorem dX3_init_61 : decode cX3_init 61 = .ok (.putfield 43, 3) := by decide +kernel
theorem dX3_init_64 : decode cX3_init 64 = .ok (.aload_n 0, 1) := by decide +kernel
theorem dX3_init_65 : decode cX3_init 65 = .ok (.iconst 0, 1) := by decide +kernel
theorem dX3_init_66 : decode cX3_init 66 = .ok (.putfield 46, 3) := by decide +kernel
theorem dX3_init_69 : decode cX3_init 69 = .ok (.return_, 1) := by decide +kernel
theorem dX3_copyFrom_0 : decode cX3_copyFrom 0 = .ok (.aload_n 0, 1) := by decide +kernel
theorem dX3_copyFrom_1 : decode cX3_copyFrom 1 = .ok (.getfield 12, 3) := by decide +kernel
theorem dX3_copyFrom_4 : decode cX3_copyFrom 4 = .ok (.aload_n 1, 1) := by decide +kernel
theorem dX3_copyFrom_5 : decode cX3_copyFrom 5 = .ok (.getfield 12, 3) := by decide +kernel
theorem dX3_copyFrom_8 : decode cX3_copyFrom 8 = .ok (.invokevirtual 49, 3) := by decide +kernel
theorem dX3_copyFrom_11 : decode cX3_copyFrom 11 = .ok (.aload_n 0, 1) := by decide +kernel
theorem dX3_copyFrom_12 : decode cX3_copyFrom 12 = .ok (.getfield 21, 3) := by decide +kernel
theorem dX3_copyFrom_15 : decode cX3_copyFrom 15 = .ok (.aload_n 1, 1) := by decide +kernel
theorem dX3_copyFrom_16 : decode cX3_copyFrom 16 = .ok (.getfield 21, 3) := by decide +kernel
theorem dX3_copyFrom_19 : decode cX3_copyFrom 19 = .ok (.invokevirtual 53, 3) := by decide +kernel
theorem dX3_copyFrom_22 : decode cX3_copyFrom 22 = .ok (.aload_n 0, 1) := by decide +kernel
theorem dX3_copyFrom_23 : decode cX3_copyFrom 23 = .ok (.getfield 25, 3) := by decide +kernel
theorem dX3_copyFrom_26 : decode cX3_copyFrom 26 = .ok (.aload_n 1, 1) := by decide +kernel
theorem dX3_copyFrom_27 : decode cX3_copyFrom 27 = .ok (.getfield 25, 3) := by decide +kernel
theorem dX3_copyFrom_30 : decode cX3_copyFrom 30 = .ok (.invokevirtual 49, 3) := by decide +kernel
theorem dX3_copyFrom_33 : decode cX3_copyFrom 33 = .ok (.aload_n 0, 1) := by decide +kernel
theorem dX3_copyFrom_34 : decode cX3_copyFrom 34 = .ok (.aload_n 1, 1) := by decide +kernel
theorem dX3_copyFrom_35 : decode cX3_copyFrom 35 = .ok (.getfield 28, 3) := by decide +kernel
theorem dX3_copyFrom_38 : decode cX3_copyFrom 38 = .ok (.putfield 28, 3) := by decide +kernel
theorem dX3_copyFrom_41 : decode cX3_copyFrom 41 = .ok (.aload_n 0, 1) := by decide +kernel
theorem dX3_copyFrom_42 : decode cX3_copyFrom 42 = .ok (.aload_n 1, 1) := by decide +kernel
theorem dX3_copyFrom_43 : decode cX3_copyFrom 43 = .ok (.getfield 32, 3) := by decide +kernel
theorem dX3_copyFrom_46 : decode cX3_copyFrom 46 = .ok (.putfield 32, 3) := by decide +kernel
theorem dX3_copyFrom_49 : decode cX3_copyFrom 49 = .ok (.iconst 0, 1) := by decide +kernel
theorem dX3_copyFrom_50 : decode cX3_copyFrom 50 = .ok (.istore_n 2, 1) := by decide +kernel
theorem dX3_copyFrom_51 : decode cX3_copyFrom 51 = .ok (.iload_n 2, 1) := by decide +kernel
theorem dX3_copyFrom_52 : decode cX3_copyFrom 52 = .ok (.iconst 5, 1) := by decide +kernel
theorem dX3_copyFrom_53 : decode cX3_copyFrom 53 = .ok (.if_icmp .ge 21, 3) := by decide +kernel
theorem dX3_copyFrom_56 : decode cX3_copyFrom 56 = .ok (.aload_n 0, 1) := by decide +kernel
theorem dX3_copyFrom_57 : decode cX3_copyFrom 57 = .ok (.getfield 36, 3) := by decide +kernel
theorem dX3_copyFrom_60 : decode cX3_copyFrom 60 = .ok (.iload_n 2, 1) := by decide +kernel
theorem dX3_copyFrom_61 : decode cX3_copyFrom 61 = .ok (.aload_n 1, 1) := by decide +kernel
theorem dX3_copyFrom_62 : decode cX3_copyFrom 62 = .ok (.getfield 36, 3) := by decide +kernel
theorem dX3_copyFrom_65 : decode cX3_copyFrom 65 = .ok (.iload_n 2, 1) := by decide +kernel
theorem dX3_copyFrom_66 : decode cX3_copyFrom 66 = .ok (.iaload, 1) := by decide +kernel
theorem dX3_copyFrom_67 : decode cX3_copyFrom 67 = .ok (.iastore, 1) := by decide +kernel
theorem dX3_copyFrom_68 : decode cX3_copyFrom 68 = .ok (.iinc 2 1, 3) := by decide +kernel
theorem dX3_copyFrom_71 : decode cX3_copyFrom 71 = .ok (.goto (-20), 3) := by decide +kernel
theorem dX3_copyFrom_74 : decode cX3_copyFrom 74 = .ok (.aload_n 0, 1) := by decide +kernel
theorem dX3_copyFrom_75 : decode cX3_copyFrom 75 = .ok (.aload_n 1, 1) := by decide +kernel
theorem dX3_copyFrom_76 : decode cX3_copyFrom 76 = .ok (.getfield 40, 3) := by decide +kernel
theorem dX3_copyFrom_79 : decode cX3_copyFrom 79 = .ok (.putfield 40, 3) := by decide +kernel
theorem dX3_copyFrom_82 : decode cX3_copyFrom 82 = .ok (.aload_n 0, 1) := by decide +kernel
theorem dX3_copyFrom_83 : decode cX3_copyFrom 83 = .ok (.aload_n 1, 1) := by decide +kernel
theorem dX3_copyFrom_84 : decode cX3_copyFrom 84 = .ok (.getfield 43, 3) := by decide +kernel
theorem dX3_copyFrom_87 : decode cX3_copyFrom 87 = .ok (.putfield 43, 3) := by decide +kernel
theorem dX3_copyFrom_90 : decode cX3_copyFrom 90 = .ok (.aload_n 0, 1) := by decide +kernel
theorem dX3_copyFrom_91 : decode cX3_copyFrom 91 = .ok (.aload_n 1, 1) := by decide +kernel
theorem dX3_copyFrom_92 : decode cX3_copyFrom 92 = .ok (.getfield 46, 3) := by decide +kernel
theorem dX3_copyFrom_95 : decode cX3_copyFrom 95 = .ok (.putfield 46, 3) := by decide +kernel
theorem dX3_copyFrom_98 : decode cX3_copyFrom 98 = .ok (.return_, 1) := by decide +kernel
theorem dX3_allows_0 : decode cX3_allows 0 = .ok (.aload_n 0, 1) := by decide +kernel
theorem dX3_allows_1 : decode cX3_allows 1 = .ok (.getfield 21, 3) := by decide +kernel
theorem dX3_allows_4 : decode cX3_allows 4 = .ok (.iload_n 1, 1) := by decide +kernel
theorem dX3_allows_5 : decode cX3_allows 5 = .ok (.invokestatic 56, 3) := by decide +kernel
theorem dX3_allows_8 : decode cX3_allows 8 = .ok (.invokevirtual 60, 3) := by decide +kernel
theorem dX3_allows_11 : decode cX3_allows 11 = .ok (.aload_n 0, 1) := by decide +kernel
theorem dX3_allows_12 : decode cX3_allows 12 = .ok (.getfield 32, 3) := by decide +kernel
theorem dX3_allows_15 : decode cX3_allows 15 = .ok (.iand, 1) := by decide +kernel
theorem dX3_allows_16 : decode cX3_allows 16 = .ok (.ifCond .ne 7, 3) := by decide +kernel
theorem dX3_allows_19 : decode cX3_allows 19 = .ok (.iconst 1, 1) := by decide +kernel
theorem dX3_allows_20 : decode cX3_allows 20 = .ok (.goto 4, 3) := by decide +kernel
theorem dX3_allows_23 : decode cX3_allows 23 = .ok (.iconst 0, 1) := by decide +kernel
theorem dX3_allows_24 : decode cX3_allows 24 = .ok (.ireturn, 1) := by decide +kernel
theorem dX3_stuckKeys_0 : decode cX3_stuckKeys 0 = .ok (.iconst 0, 1) := by decide +kernel
theorem dX3_stuckKeys_1 : decode cX3_stuckKeys 1 = .ok (.istore_n 1, 1) := by decide +kernel
theorem dX3_stuckKeys_2 : decode cX3_stuckKeys 2 = .ok (.iconst 0, 1) := by decide +kernel
theorem dX3_stuckKeys_3 : decode cX3_stuckKeys 3 = .ok (.istore_n 2, 1) := by decide +kernel
theorem dX3_stuckKeys_4 : decode cX3_stuckKeys 4 = .ok (.iload_n 2, 1) := by decide +kernel
theorem dX3_stuckKeys_5 : decode cX3_stuckKeys 5 = .ok (.iconst 5, 1) := by decide +kernel
theorem dX3_stuckKeys_6 : decode cX3_stuckKeys 6 = .ok (.if_icmp .ge 20, 3) := by decide +kernel
theorem dX3_stuckKeys_9 : decode cX3_stuckKeys 9 = .ok (.aload_n 0, 1) := by decide +kernel
theorem dX3_stuckKeys_10 : decode cX3_stuckKeys 10 = .ok (.iload_n 2, 1) := by decide +kernel
theorem dX3_stuckKeys_11 : decode cX3_stuckKeys 11 = .ok (.invokevirtual 63, 3) := by decide +kernel
theorem dX3_stuckKeys_14 : decode cX3_stuckKeys 14 = .ok (.ifCond .ne 6, 3) := by decide +kernel
theorem dX3_stuckKeys_17 : decode cX3_stuckKeys 17 = .ok (.iinc 1 1, 3) := by decide +kernel
theorem dX3_stuckKeys_20 : decode cX3_stuckKeys 20 = .ok (.iinc 2 1, 3) := by decide +kernel
theorem dX3_stuckKeys_23 : decode cX3_stuckKeys 23 = .ok (.goto (-19), 3) := by decide +kernel
theorem dX3_stuckKeys_26 : decode cX3_stuckKeys 26 = .ok (.iload_n 1, 1) := by decide +kernel
theorem dX3_stuckKeys_27 : decode cX3_stuckKeys 27 = .ok (.ireturn, 1) := by decide +kernel
theorem dX3_usesOf_0 : decode cX3_usesOf 0 = .ok (.iload_n 1, 1) := by decide +kernel
theorem dX3_usesOf_1 : decode cX3_usesOf 1 = .ok (.ifCond .lt 17, 3) := by decide +kernel
theorem dX3_usesOf_4 : decode cX3_usesOf 4 = .ok (.iload_n 1, 1) := by decide +kernel
theorem dX3_usesOf_5 : decode cX3_usesOf 5 = .ok (.iconst 5, 1) := by decide +kernel
theorem dX3_usesOf_6 : decode cX3_usesOf 6 = .ok (.if_icmp .ge 12, 3) := by decide +kernel
theorem dX3_usesOf_9 : decode cX3_usesOf 9 = .ok (.aload_n 0, 1) := by decide +kernel
theorem dX3_usesOf_10 : decode cX3_usesOf 10 = .ok (.getfield 36, 3) := by decide +kernel
theorem dX3_usesOf_13 : decode cX3_usesOf 13 = .ok (.iload_n 1, 1) := by decide +kernel
theorem dX3_usesOf_14 : decode cX3_usesOf 14 = .ok (.iaload, 1) := by decide +kernel
theorem dX3_usesOf_15 : decode cX3_usesOf 15 = .ok (.goto 4, 3) := by decide +kernel
theorem dX3_usesOf_18 : decode cX3_usesOf 18 = .ok (.iconst 0, 1) := by decide +kernel
theorem dX3_usesOf_19 : decode cX3_usesOf 19 = .ok (.ireturn, 1) := by decide +kernel
theorem dX3_asInSecret_0 : decode cX3_asInSecret 0 = .ok (.aload_n 0, 1) := by decide +kernel
theorem dX3_asInSecret_1 : decode cX3_asInSecret 1 = .ok (.getfield 28, 3) := by decide +kernel
theorem dX3_asInSecret_4 : decode cX3_asInSecret 4 = .ok (.ifCond .eq 14, 3) := by decide +kernel
theorem dX3_asInSecret_7 : decode cX3_asInSecret 7 = .ok (.aload_n 1, 1) := by decide +kernel
theorem dX3_asInSecret_8 : decode cX3_asInSecret 8 = .ok (.aload_n 0, 1) := by decide +kernel
theorem dX3_asInSecret_9 : decode cX3_asInSecret 9 = .ok (.getfield 25, 3) := by decide +kernel
theorem dX3_asInSecret_12 : decode cX3_asInSecret 12 = .ok (.invokevirtual 67, 3) := by decide +kernel
theorem dX3_asInSecret_15 : decode cX3_asInSecret 15 = .ok (.goto 4, 3) := by decide +kernel
theorem dX3_asInSecret_18 : decode cX3_asInSecret 18 = .ok (.iconst 0, 1) := by decide +kernel
theorem dX3_asInSecret_19 : decode cX3_asInSecret 19 = .ok (.ireturn, 1) := by decide +kernel
theorem dX3_opens_0 : decode cX3_opens 0 = .ok (.aload_n 0, 1) := by decide +kernel
theorem dX3_opens_1 : decode cX3_opens 1 = .ok (.aload_n 0, 1) := by decide +kernel
theorem dX3_opens_2 : decode cX3_opens 2 = .ok (.getfield 12, 3) := by decide +kernel
theorem dX3_opens_5 : decode cX3_opens 5 = .ok (.invokevirtual 71, 3) := by decide +kernel
theorem dX3_opens_8 : decode cX3_opens 8 = .ok (.bipush 6, 2) := by decide +kernel
theorem dX3_opens_10 : decode cX3_opens 10 = .ok (.if_icmp .ne 7, 3) := by decide +kernel
theorem dX3_opens_13 : decode cX3_opens 13 = .ok (.iconst 1, 1) := by decide +kernel
theorem dX3_opens_14 : decode cX3_opens 14 = .ok (.goto 4, 3) := by decide +kernel
theorem dX3_opens_17 : decode cX3_opens 17 = .ok (.iconst 0, 1) := by decide +kernel
theorem dX3_opens_18 : decode cX3_opens 18 = .ok (.ireturn, 1) := by decide +kernel
theorem dX3_doMove_0 : decode cX3_doMove 0 = .ok (.aload_n 0, 1) := by decide +kernel
theorem dX3_doMove_1 : decode cX3_doMove 1 = .ok (.invokevirtual 74, 3) := by decide +kernel
theorem dX3_doMove_4 : decode cX3_doMove 4 = .ok (.istore_n 2, 1) := by decide +kernel
theorem dX3_doMove_5 : decode cX3_doMove 5 = .ok (.aload_n 0, 1) := by decide +kernel
theorem dX3_doMove_6 : decode cX3_doMove 6 = .ok (.getfield 21, 3) := by decide +kernel
theorem dX3_doMove_9 : decode cX3_doMove 9 = .ok (.aload_n 0, 1) := by decide +kernel
theorem dX3_doMove_10 : decode cX3_doMove 10 = .ok (.getfield 12, 3) := by decide +kernel
theorem dX3_doMove_13 : decode cX3_doMove 13 = .ok (.iload_n 1, 1) := by decide +kernel
theorem dX3_doMove_14 : decode cX3_doMove 14 = .ok (.invokevirtual 78, 3) := by decide +kernel
theorem dX3_doMove_17 : decode cX3_doMove 17 = .ok (.aload_n 0, 1) := by decide +kernel
theorem dX3_doMove_18 : decode cX3_doMove 18 = .ok (.aload_n 0, 1) := by decide +kernel
theorem dX3_doMove_19 : decode cX3_doMove 19 = .ok (.getfield 43, 3) := by decide +kernel
theorem dX3_doMove_22 : decode cX3_doMove 22 = .ok (.aload_n 0, 1) := by decide +kernel
theorem dX3_doMove_23 : decode cX3_doMove 23 = .ok (.getfield 21, 3) := by decide +kernel
theorem dX3_doMove_26 : decode cX3_doMove 26 = .ok (.iload_n 1, 1) := by decide +kernel
theorem dX3_doMove_27 : decode cX3_doMove 27 = .ok (.invokevirtual 82, 3) := by decide +kernel
theorem dX3_doMove_30 : decode cX3_doMove 30 = .ok (.iadd, 1) := by decide +kernel
theorem dX3_doMove_31 : decode cX3_doMove 31 = .ok (.iconst 5, 1) := by decide +kernel
theorem dX3_doMove_32 : decode cX3_doMove 32 = .ok (.invokestatic 85, 3) := by decide +kernel
theorem dX3_doMove_35 : decode cX3_doMove 35 = .ok (.putfield 43, 3) := by decide +kernel
theorem dX3_doMove_38 : decode cX3_doMove 38 = .ok (.aload_n 0, 1) := by decide +kernel
theorem dX3_doMove_39 : decode cX3_doMove 39 = .ok (.dup, 1) := by decide +kernel
theorem dX3_doMove_40 : decode cX3_doMove 40 = .ok (.getfield 40, 3) := by decide +kernel
theorem dX3_doMove_43 : decode cX3_doMove 43 = .ok (.iconst 1, 1) := by decide +kernel
theorem dX3_doMove_44 : decode cX3_doMove 44 = .ok (.iadd, 1) := by decide +kernel
theorem dX3_doMove_45 : decode cX3_doMove 45 = .ok (.putfield 40, 3) := by decide +kernel
theorem dX3_doMove_48 : decode cX3_doMove 48 = .ok (.iload_n 1, 1) := by decide +kernel
theorem dX3_doMove_49 : decode cX3_doMove 49 = .ok (.invokestatic 56, 3) := by decide +kernel
theorem dX3_doMove_52 : decode cX3_doMove 52 = .ok (.istore_n 3, 1) := by decide +kernel
theorem dX3_doMove_53 : decode cX3_doMove 53 = .ok (.iload_n 3, 1) := by decide +kernel
theorem dX3_doMove_54 : decode cX3_doMove 54 = .ok (.ifCond .lt 18, 3) := by decide +kernel
theorem dX3_doMove_57 : decode cX3_doMove 57 = .ok (.iload_n 3, 1) := by decide +kernel
theorem dX3_doMove_58 : decode cX3_doMove 58 = .ok (.iconst 5, 1) := by decide +kernel
theorem dX3_doMove_59 : decode cX3_doMove 59 = .ok (.if_icmp .ge 13, 3) := by decide +kernel
theorem dX3_doMove_62 : decode cX3_doMove 62 = .ok (.aload_n 0, 1) := by decide +kernel
theorem dX3_doMove_63 : decode cX3_doMove 63 = .ok (.getfield 36, 3) := by decide +kernel
theorem dX3_doMove_66 : decode cX3_doMove 66 = .ok (.iload_n 3, 1) := by decide +kernel
theorem dX3_doMove_67 : decode cX3_doMove 67 = .ok (.dup2, 1) := by decide +kernel
theorem dX3_doMove_68 : decode cX3_doMove 68 = .ok (.iaload, 1) := by decide +kernel
theorem dX3_doMove_69 : decode cX3_doMove 69 = .ok (.iconst 1, 1) := by decide +kernel
theorem dX3_doMove_70 : decode cX3_doMove 70 = .ok (.iadd, 1) := by decide +kernel
theorem dX3_doMove_71 : decode cX3_doMove 71 = .ok (.iastore, 1) := by decide +kernel
theorem dX3_doMove_72 : decode cX3_doMove 72 = .ok (.iload_n 2, 1) := by decide +kernel
theorem dX3_doMove_73 : decode cX3_doMove 73 = .ok (.ifCond .ne 20, 3) := by decide +kernel
theorem dX3_doMove_76 : decode cX3_doMove 76 = .ok (.aload_n 0, 1) := by decide +kernel
theorem dX3_doMove_77 : decode cX3_doMove 77 = .ok (.invokevirtual 74, 3) := by decide +kernel
theorem dX3_doMove_80 : decode cX3_doMove 80 = .ok (.ifCond .eq 13, 3) := by decide +kernel
theorem dX3_doMove_83 : decode cX3_doMove 83 = .ok (.aload_n 0, 1) := by decide +kernel
theorem dX3_doMove_84 : decode cX3_doMove 84 = .ok (.dup, 1) := by decide +kernel
theorem dX3_doMove_85 : decode cX3_doMove 85 = .ok (.getfield 46, 3) := by decide +kernel
theorem dX3_doMove_88 : decode cX3_doMove 88 = .ok (.iconst 1, 1) := by decide +kernel
theorem dX3_doMove_89 : decode cX3_doMove 89 = .ok (.iadd, 1) := by decide +kernel
theorem dX3_doMove_90 : decode cX3_doMove 90 = .ok (.putfield 46, 3) := by decide +kernel
theorem dX3_doMove_93 : decode cX3_doMove 93 = .ok (.return_, 1) := by decide +kernel
theorem dX4_init_0 : decode cX4_init 0 = .ok (.aload_n 0, 1) := by decide +kernel
theorem dX4_init_1 : decode cX4_init 1 = .ok (.invokespecial 3, 3) := by decide +kernel
theorem dX4_init_4 : decode cX4_init 4 = .ok (.aload_n 0, 1) := by decide +kernel
theorem dX4_init_5 : decode cX4_init 5 = .ok (.bipush 60, 2) := by decide +kernel
theorem dX4_init_7 : decode cX4_init 7 = .ok (.newarray .char, 2) := by decide +kernel
theorem dX4_init_9 : decode cX4_init 9 = .ok (.putfield 9, 3) := by decide +kernel
theorem dX4_init_12 : decode cX4_init 12 = .ok (.aload_n 0, 1) := by decide +kernel
theorem dX4_init_13 : decode cX4_init 13 = .ok (.iconst 0, 1) := by decide +kernel
theorem dX4_init_14 : decode cX4_init 14 = .ok (.putfield 15, 3) := by decide +kernel
theorem dX4_init_17 : decode cX4_init 17 = .ok (.aload_n 0, 1) := by decide +kernel
theorem dX4_init_18 : decode cX4_init 18 = .ok (.sipush 500, 3) := by decide +kernel
theorem dX4_init_21 : decode cX4_init 21 = .ok (.newarray .int, 2) := by decide +kernel
theorem dX4_init_23 : decode cX4_init 23 = .ok (.putfield 19, 3) := by decide +kernel
theorem dX4_init_26 : decode cX4_init 26 = .ok (.aload_n 0, 1) := by decide +kernel
theorem dX4_init_27 : decode cX4_init 27 = .ok (.iconst 0, 1) := by decide +kernel
theorem dX4_init_28 : decode cX4_init 28 = .ok (.putfield 23, 3) := by decide +kernel
theorem dX4_init_31 : decode cX4_init 31 = .ok (.aload_n 0, 1) := by decide +kernel
theorem dX4_init_32 : decode cX4_init 32 = .ok (.iconst 0, 1) := by decide +kernel
theorem dX4_init_33 : decode cX4_init 33 = .ok (.putfield 26, 3) := by decide +kernel
theorem dX4_init_36 : decode cX4_init 36 = .ok (.aload_n 0, 1) := by decide +kernel
theorem dX4_init_37 : decode cX4_init 37 = .ok (.iconst 4, 1) := by decide +kernel
theorem dX4_init_38 : decode cX4_init 38 = .ok (.newarray .int, 2) := by decide +kernel
theorem dX4_init_40 : decode cX4_init 40 = .ok (.putfield 30, 3) := by decide +kernel
theorem dX4_init_43 : decode cX4_init 43 = .ok (.aload_n 0, 1) := by decide +kernel
theorem dX4_init_44 : decode cX4_init 44 = .ok (.iconst 4, 1) := by decide +kernel
theorem dX4_init_45 : decode cX4_init 45 = .ok (.newarray .int, 2) := by decide +kernel
theorem dX4_init_47 : decode cX4_init 47 = .ok (.putfield 33, 3) := by decide +kernel
theorem dX4_init_50 : decode cX4_init 50 = .ok (.aload_n 0, 1) := by decide +kernel
theorem dX4_init_51 : decode cX4_init 51 = .ok (.iconst 4, 1) := by decide +kernel
theorem dX4_init_52 : decode cX4_init 52 = .ok (.newarray .int, 2) := by decide +kernel
theorem dX4_init_54 : decode cX4_init 54 = .ok (.putfield 36, 3) := by decide +kernel
theorem dX4_init_57 : decode cX4_init 57 = .ok (.aload_n 0, 1) := by decide +kernel
theorem dX4_init_58 : decode cX4_init 58 = .ok (.iconst 0, 1) := by decide +kernel
theorem dX4_init_59 : decode cX4_init 59 = .ok (.putfield 39, 3) := by decide +kernel
theorem dX4_init_62 : decode cX4_init 62 = .ok (.aload_n 0, 1) := by decide +kernel
theorem dX4_init_63 : decode cX4_init 63 = .ok (.iconst 0, 1) := by decide +kernel
theorem dX4_init_64 : decode cX4_init 64 = .ok (.putfield 42, 3) := by decide +kernel
theorem dX4_init_67 : decode cX4_init 67 = .ok (.aload_n 0, 1) := by decide +kernel
theorem dX4_init_68 : decode cX4_init 68 = .ok (.iconst 0, 1) := by decide +kernel
theorem dX4_init_69 : decode cX4_init 69 = .ok (.putfield 45, 3) := by decide +kernel
theorem dX4_init_72 : decode cX4_init 72 = .ok (.return_, 1) := by decide +kernel
theorem dX4_addSign_0 : decode cX4_addSign 0 = .ok (.aload_n 0, 1) := by decide +kernel
theorem dX4_addSign_1 : decode cX4_addSign 1 = .ok (.getfield 15, 3) := by decide +kernel
theorem dX4_addSign_4 : decode cX4_addSign 4 = .ok (.ifCond .lt 32, 3) := by decide +kernel
theorem dX4_addSign_7 : decode cX4_addSign 7 = .ok (.aload_n 0, 1) := by decide +kernel
theorem dX4_addSign_8 : decode cX4_addSign 8 = .ok (.getfield 15, 3) := by decide +kernel
theorem dX4_addSign_11 : decode cX4_addSign 11 = .ok (.bipush 60, 2) := by decide +kernel
theorem dX4_addSign_13 : decode cX4_addSign 13 = .ok (.if_icmp .ge 23, 3) := by decide +kernel
theorem dX4_addSign_16 : decode cX4_addSign 16 = .ok (.aload_n 0, 1) := by decide +kernel
theorem dX4_addSign_17 : decode cX4_addSign 17 = .ok (.getfield 9, 3) := by decide +kernel
theorem dX4_addSign_20 : decode cX4_addSign 20 = .ok (.aload_n 0, 1) := by decide +kernel
theorem dX4_addSign_21 : decode cX4_addSign 21 = .ok (.getfield 15, 3) := by decide +kernel
theorem dX4_addSign_24 : decode cX4_addSign 24 = .ok (.iload_n 1, 1) := by decide +kernel
theorem dX4_addSign_25 : decode cX4_addSign 25 = .ok (.castore, 1) := by decide +kernel
theorem dX4_addSign_26 : decode cX4_addSign 26 = .ok (.aload_n 0, 1) := by decide +kernel
theorem dX4_addSign_27 : decode cX4_addSign 27 = .ok (.dup, 1) := by decide +kernel
theorem dX4_addSign_28 : decode cX4_addSign 28 = .ok (.getfield 15, 3) := by decide +kernel
theorem dX4_addSign_31 : decode cX4_addSign 31 = .ok (.iconst 1, 1) := by decide +kernel
theorem dX4_addSign_32 : decode cX4_addSign 32 = .ok (.iadd, 1) := by decide +kernel
theorem dX4_addSign_33 : decode cX4_addSign 33 = .ok (.putfield 15, 3) := by decide +kernel
theorem dX4_addSign_36 : decode cX4_addSign 36 = .ok (.return_, 1) := by decide +kernel
theorem dX4_signAt_0 : decode cX4_signAt 0 = .ok (.iload_n 1, 1) := by decide +kernel
theorem dX4_signAt_1 : decode cX4_signAt 1 = .ok (.ifCond .lt 18, 3) := by decide +kernel
theorem dX4_signAt_4 : decode cX4_signAt 4 = .ok (.iload_n 1, 1) := by decide +kernel
theorem dX4_signAt_5 : decode cX4_signAt 5 = .ok (.bipush 60, 2) := by decide +kernel
theorem dX4_signAt_7 : decode cX4_signAt 7 = .ok (.if_icmp .ge 12, 3) := by decide +kernel
theorem dX4_signAt_10 : decode cX4_signAt 10 = .ok (.aload_n 0, 1) := by decide +kernel
theorem dX4_signAt_11 : decode cX4_signAt 11 = .ok (.getfield 9, 3) := by decide +kernel
theorem dX4_signAt_14 : decode cX4_signAt 14 = .ok (.iload_n 1, 1) := by decide +kernel
theorem dX4_signAt_15 : decode cX4_signAt 15 = .ok (.caload, 1) := by decide +kernel
theorem dX4_signAt_16 : decode cX4_signAt 16 = .ok (.goto 4, 3) := by decide +kernel
theorem dX4_signAt_19 : decode cX4_signAt 19 = .ok (.iconst 0, 1) := by decide +kernel
theorem dX4_signAt_20 : decode cX4_signAt 20 = .ok (.ireturn, 1) := by decide +kernel
theorem dX4_moveAt_0 : decode cX4_moveAt 0 = .ok (.iload_n 1, 1) := by decide +kernel
theorem dX4_moveAt_1 : decode cX4_moveAt 1 = .ok (.ifCond .lt 19, 3) := by decide +kernel
theorem dX4_moveAt_4 : decode cX4_moveAt 4 = .ok (.iload_n 1, 1) := by decide +kernel
theorem dX4_moveAt_5 : decode cX4_moveAt 5 = .ok (.sipush 500, 3) := by decide +kernel
theorem dX4_moveAt_8 : decode cX4_moveAt 8 = .ok (.if_icmp .ge 12, 3) := by decide +kernel
theorem dX4_moveAt_11 : decode cX4_moveAt 11 = .ok (.aload_n 0, 1) := by decide +kernel
theorem dX4_moveAt_12 : decode cX4_moveAt 12 = .ok (.getfield 19, 3) := by decide +kernel
theorem dX4_moveAt_15 : decode cX4_moveAt 15 = .ok (.iload_n 1, 1) := by decide +kernel
theorem dX4_moveAt_16 : decode cX4_moveAt 16 = .ok (.iaload, 1) := by decide +kernel
theorem dX4_moveAt_17 : decode cX4_moveAt 17 = .ok (.goto 4, 3) := by decide +kernel
theorem dX4_moveAt_20 : decode cX4_moveAt 20 = .ok (.iconst 0, 1) := by decide +kernel
theorem dX4_moveAt_21 : decode cX4_moveAt 21 = .ok (.ireturn, 1) := by decide +kernel
theorem dX4_turnsLessBacks_0 : decode cX4_turnsLessBacks 0 = .ok (.iconst 0, 1) := by decide +kernel
theorem dX4_turnsLessBacks_1 : decode cX4_turnsLessBacks 1 = .ok (.istore_n 1, 1) := by decide +kernel
theorem dX4_turnsLessBacks_2 : decode cX4_turnsLessBacks 2 = .ok (.iconst 0, 1) := by decide +kernel
theorem dX4_turnsLessBacks_3 : decode cX4_turnsLessBacks 3 = .ok (.istore_n 2, 1) := by decide +kernel
theorem dX4_turnsLessBacks_4 : decode cX4_turnsLessBacks 4 = .ok (.iload_n 2, 1) := by decide +kernel
theorem dX4_turnsLessBacks_5 : decode cX4_turnsLessBacks 5 = .ok (.aload_n 0, 1) := by decide +kernel
theorem dX4_turnsLessBacks_6 : decode cX4_turnsLessBacks 6 = .ok (.getfield 23, 3) := by decide +kernel
theorem dX4_turnsLessBacks_9 : decode cX4_turnsLessBacks 9 = .ok (.if_icmp .ge 36, 3) := by decide +kernel
theorem dX4_turnsLessBacks_12 : decode cX4_turnsLessBacks 12 = .ok (.iload_n 2, 1) := by decide +kernel
theorem dX4_turnsLessBacks_13 : decode cX4_turnsLessBacks 13 = .ok (.sipush 500, 3) := by decide +kernel
theorem dX4_turnsLessBacks_16 : decode cX4_turnsLessBacks 16 = .ok (.if_icmp .ge 29, 3) := by decide +kernel
theorem dX4_turnsLessBacks_19 : decode cX4_turnsLessBacks 19 = .ok (.iload_n 1, 1) := by decide +kernel
theorem dX4_turnsLessBacks_20 : decode cX4_turnsLessBacks 20 = .ok (.aload_n 0, 1) := by decide +kernel
theorem dX4_turnsLessBacks_21 : decode cX4_turnsLessBacks 21 = .ok (.getfield 19, 3) := by decide +kernel
theorem dX4_turnsLessBacks_24 : decode cX4_turnsLessBacks 24 = .ok (.iload_n 2, 1) := by decide +kernel
theorem dX4_turnsLessBacks_25 : decode cX4_turnsLessBacks 25 = .ok (.iaload, 1) := by decide +kernel
theorem dX4_turnsLessBacks_26 : decode cX4_turnsLessBacks 26 = .ok (.invokestatic 48, 3) := by decide +kernel
theorem dX4_turnsLessBacks_29 : decode cX4_turnsLessBacks 29 = .ok (.ifCond .eq 7, 3) := by decide +kernel
theorem dX4_turnsLessBacks_32 : decode cX4_turnsLessBacks 32 = .ok (.iconst (-1), 1) := by decide +kernel
theorem dX4_turnsLessBacks_33 : decode cX4_turnsLessBacks 33 = .ok (.goto 4, 3) := by decide +kernel
theorem dX4_turnsLessBacks_36 : decode cX4_turnsLessBacks 36 = .ok (.iconst 1, 1) := by decide +kernel
theorem dX4_turnsLessBacks_37 : decode cX4_turnsLessBacks 37 = .ok (.iadd, 1) := by decide +kernel
theorem dX4_turnsLessBacks_38 : decode cX4_turnsLessBacks 38 = .ok (.istore_n 1, 1) := by decide +kernel
theorem dX4_turnsLessBacks_39 : decode cX4_turnsLessBacks 39 = .ok (.iinc 2 1, 3) := by decide +kernel
theorem dX4_turnsLessBacks_42 : decode cX4_turnsLessBacks 42 = .ok (.goto (-38), 3) := by decide +kernel
theorem dX4_turnsLessBacks_45 : decode cX4_turnsLessBacks 45 = .ok (.iload_n 1, 1) := by decide +kernel
theorem dX4_turnsLessBacks_46 : decode cX4_turnsLessBacks 46 = .ok (.ireturn, 1) := by decide +kernel
theorem dX4_read_0 : decode cX4_read 0 = .ok (.aload_n 0, 1) := by decide +kernel
theorem dX4_read_1 : decode cX4_read 1 = .ok (.iconst 0, 1) := by decide +kernel
theorem dX4_read_2 : decode cX4_read 2 = .ok (.putfield 23, 3) := by decide +kernel
theorem dX4_read_5 : decode cX4_read 5 = .ok (.aload_n 0, 1) := by decide +kernel
theorem dX4_read_6 : decode cX4_read 6 = .ok (.iconst 0, 1) := by decide +kernel
theorem dX4_read_7 : decode cX4_read 7 = .ok (.putfield 39, 3) := by decide +kernel
theorem dX4_read_10 : decode cX4_read 10 = .ok (.aload_n 0, 1) := by decide +kernel
theorem dX4_read_11 : decode cX4_read 11 = .ok (.iconst 0, 1) := by decide +kernel
theorem dX4_read_12 : decode cX4_read 12 = .ok (.putfield 42, 3) := by decide +kernel
theorem dX4_read_15 : decode cX4_read 15 = .ok (.aload_n 0, 1) := by decide +kernel
theorem dX4_read_16 : decode cX4_read 16 = .ok (.iconst 0, 1) := by decide +kernel
theorem dX4_read_17 : decode cX4_read 17 = .ok (.putfield 45, 3) := by decide +kernel
theorem dX4_read_20 : decode cX4_read 20 = .ok (.iconst 0, 1) := by decide +kernel
theorem dX4_read_21 : decode cX4_read 21 = .ok (.istore_n 1, 1) := by decide +kernel
theorem dX4_read_22 : decode cX4_read 22 = .ok (.iload_n 1, 1) := by decide +kernel
theorem dX4_read_23 : decode cX4_read 23 = .ok (.aload_n 0, 1) := by decide +kernel
theorem dX4_read_24 : decode cX4_read 24 = .ok (.getfield 15, 3) := by decide +kernel
theorem dX4_read_27 : decode cX4_read 27 = .ok (.if_icmp .ge 21, 3) := by decide +kernel
theorem dX4_read_30 : decode cX4_read 30 = .ok (.aload_n 0, 1) := by decide +kernel
theorem dX4_read_31 : decode cX4_read 31 = .ok (.aload_n 0, 1) := by decide +kernel
theorem dX4_read_32 : decode cX4_read 32 = .ok (.iload_n 1, 1) := by decide +kernel
theorem dX4_read_33 : decode cX4_read 33 = .ok (.invokevirtual 52, 3) := by decide +kernel
theorem dX4_read_36 : decode cX4_read 36 = .ok (.invokevirtual 56, 3) := by decide +kernel
theorem dX4_read_39 : decode cX4_read 39 = .ok (.ifCond .eq 9, 3) := by decide +kernel
theorem dX4_read_42 : decode cX4_read 42 = .ok (.iinc 1 1, 3) := by decide +kernel
theorem dX4_read_45 : decode cX4_read 45 = .ok (.goto (-23), 3) := by decide +kernel
theorem dX4_read_48 : decode cX4_read 48 = .ok (.aload_n 0, 1) := by decide +kernel
theorem dX4_read_49 : decode cX4_read 49 = .ok (.iload_n 1, 1) := by decide +kernel
theorem dX4_read_50 : decode cX4_read 50 = .ok (.aload_n 0, 1) := by decide +kernel
theorem dX4_read_51 : decode cX4_read 51 = .ok (.getfield 15, 3) := by decide +kernel
theorem dX4_read_54 : decode cX4_read 54 = .ok (.if_icmp .ne 28, 3) := by decide +kernel
theorem dX4_read_57 : decode cX4_read 57 = .ok (.aload_n 0, 1) := by decide +kernel
theorem dX4_read_58 : decode cX4_read 58 = .ok (.getfield 39, 3) := by decide +kernel
theorem dX4_read_61 : decode cX4_read 61 = .ok (.ifCond .ne 21, 3) := by decide +kernel
theorem dX4_read_64 : decode cX4_read 64 = .ok (.aload_n 0, 1) := by decide +kernel
theorem dX4_read_65 : decode cX4_read 65 = .ok (.getfield 42, 3) := by decide +kernel
theorem dX4_read_68 : decode cX4_read 68 = .ok (.ifCond .eq 14, 3) := by decide +kernel
theorem dX4_read_71 : decode cX4_read 71 = .ok (.aload_n 0, 1) := by decide +kernel
theorem dX4_read_72 : decode cX4_read 72 = .ok (.getfield 45, 3) := by decide +kernel
theorem dX4_read_75 : decode cX4_read 75 = .ok (.ifCond .ne 7, 3) := by decide +kernel
theorem dX4_read_78 : decode cX4_read 78 = .ok (.iconst 1, 1) := by decide +kernel
theorem dX4_read_79 : decode cX4_read 79 = .ok (.goto 4, 3) := by decide +kernel
theorem dX4_read_82 : decode cX4_read 82 = .ok (.iconst 0, 1) := by decide +kernel
theorem dX4_read_83 : decode cX4_read 83 = .ok (.putfield 26, 3) := by decide +kernel
theorem dX4_read_86 : decode cX4_read 86 = .ok (.iload_n 1, 1) := by decide +kernel
theorem dX4_read_87 : decode cX4_read 87 = .ok (.ireturn, 1) := by decide +kernel
theorem dX4_takes_0 : decode cX4_takes 0 = .ok (.aload_n 0, 1) := by decide +kernel
theorem dX4_takes_1 : decode cX4_takes 1 = .ok (.getfield 45, 3) := by decide +kernel
theorem dX4_takes_4 : decode cX4_takes 4 = .ok (.ifCond .eq 9, 3) := by decide +kernel
theorem dX4_takes_7 : decode cX4_takes 7 = .ok (.aload_n 0, 1) := by decide +kernel
theorem dX4_takes_8 : decode cX4_takes 8 = .ok (.iload_n 1, 1) := by decide +kernel
theorem dX4_takes_9 : decode cX4_takes 9 = .ok (.invokevirtual 60, 3) := by decide +kernel
theorem dX4_takes_12 : decode cX4_takes 12 = .ok (.ireturn, 1) := by decide +kernel
theorem dX4_takes_13 : decode cX4_takes 13 = .ok (.iload_n 1, 1) := by decide +kernel
theorem dX4_takes_14 : decode cX4_takes 14 = .ok (.bipush 97, 2) := by decide +kernel
theorem dX4_takes_16 : decode cX4_takes 16 = .ok (.if_icmp .lt 22, 3) := by decide +kernel
theorem dX4_takes_19 : decode cX4_takes 19 = .ok (.iload_n 1, 1) := by decide +kernel
theorem dX4_takes_20 : decode cX4_takes 20 = .ok (.bipush 101, 2) := by decide +kernel
theorem dX4_takes_22 : decode cX4_takes 22 = .ok (.if_icmp .gt 16, 3) := by decide +kernel
theorem dX4_takes_25 : decode cX4_takes 25 = .ok (.aload_n 0, 1) := by decide +kernel
theorem dX4_takes_26 : decode cX4_takes 26 = .ok (.iload_n 1, 1) := by decide +kernel
theorem dX4_takes_27 : decode cX4_takes 27 = .ok (.bipush 97, 2) := by decide +kernel
theorem dX4_takes_29 : decode cX4_takes 29 = .ok (.isub, 1) := by decide +kernel
theorem dX4_takes_30 : decode cX4_takes 30 = .ok (.iconst 0, 1) := by decide +kernel
theorem dX4_takes_31 : decode cX4_takes 31 = .ok (.invokestatic 63, 3) := by decide +kernel
theorem dX4_takes_34 : decode cX4_takes 34 = .ok (.invokevirtual 67, 3) := by decide +kernel
theorem dX4_takes_37 : decode cX4_takes 37 = .ok (.ireturn, 1) := by decide +kernel
theorem dX4_takes_38 : decode cX4_takes 38 = .ok (.iload_n 1, 1) := by decide +kernel
theorem dX4_takes_39 : decode cX4_takes 39 = .ok (.bipush 65, 2) := by decide +kernel
theorem dX4_takes_41 : decode cX4_takes 41 = .ok (.if_icmp .lt 22, 3) := by decide +kernel
theorem dX4_takes_44 : decode cX4_takes 44 = .ok (.iload_n 1, 1) := by decide +kernel
theorem dX4_takes_45 : decode cX4_takes 45 = .ok (.bipush 69, 2) := by decide +kernel
theorem dX4_takes_47 : decode cX4_takes 47 = .ok (.if_icmp .gt 16, 3) := by decide +kernel
theorem dX4_takes_50 : decode cX4_takes 50 = .ok (.aload_n 0, 1) := by decide +kernel
theorem dX4_takes_51 : decode cX4_takes 51 = .ok (.iload_n 1, 1) := by decide +kernel
theorem dX4_takes_52 : decode cX4_takes 52 = .ok (.bipush 65, 2) := by decide +kernel
theorem dX4_takes_54 : decode cX4_takes 54 = .ok (.isub, 1) := by decide +kernel
theorem dX4_takes_55 : decode cX4_takes 55 = .ok (.iconst 1, 1) := by decide +kernel
theorem dX4_takes_56 : decode cX4_takes 56 = .ok (.invokestatic 63, 3) := by decide +kernel
theorem dX4_takes_59 : decode cX4_takes 59 = .ok (.invokevirtual 67, 3) := by decide +kernel
theorem dX4_takes_62 : decode cX4_takes 62 = .ok (.ireturn, 1) := by decide +kernel
theorem dX4_takes_63 : decode cX4_takes 63 = .ok (.iload_n 1, 1) := by decide +kernel
theorem dX4_takes_64 : decode cX4_takes 64 = .ok (.bipush 40, 2) := by decide +kernel
theorem dX4_takes_66 : decode cX4_takes 66 = .ok (.if_icmp .ne 9, 3) := by decide +kernel
theorem dX4_takes_69 : decode cX4_takes 69 = .ok (.aload_n 0, 1) := by decide +kernel
theorem dX4_takes_70 : decode cX4_takes 70 = .ok (.iconst 0, 1) := by decide +kernel
theorem dX4_takes_71 : decode cX4_takes 71 = .ok (.invokevirtual 70, 3) := by decide +kernel
theorem dX4_takes_74 : decode cX4_takes 74 = .ok (.ireturn, 1) := by decide +kernel
theorem dX4_takes_75 : decode cX4_takes 75 = .ok (.iload_n 1, 1) := by decide +kernel
theorem dX4_takes_76 : decode cX4_takes 76 = .ok (.bipush 91, 2) := by decide +kernel
theorem dX4_takes_78 : decode cX4_takes 78 = .ok (.if_icmp .ne 9, 3) := by decide +kernel
theorem dX4_takes_81 : decode cX4_takes 81 = .ok (.aload_n 0, 1) := by decide +kernel
theorem dX4_takes_82 : decode cX4_takes 82 = .ok (.iconst 1, 1) := by decide +kernel
theorem dX4_takes_83 : decode cX4_takes 83 = .ok (.invokevirtual 70, 3) := by decide +kernel
theorem dX4_takes_86 : decode cX4_takes 86 = .ok (.ireturn, 1) := by decide +kernel
theorem dX4_takes_87 : decode cX4_takes 87 = .ok (.aload_n 0, 1) := by decide +kernel
theorem dX4_takes_88 : decode cX4_takes 88 = .ok (.getfield 42, 3) := by decide +kernel
theorem dX4_takes_91 : decode cX4_takes 91 = .ok (.ifCond .eq 15, 3) := by decide +kernel
theorem dX4_takes_94 : decode cX4_takes 94 = .ok (.aload_n 0, 1) := by decide +kernel
theorem dX4_takes_95 : decode cX4_takes 95 = .ok (.iload_n 1, 1) := by decide +kernel
theorem dX4_takes_96 : decode cX4_takes 96 = .ok (.invokevirtual 73, 3) := by decide +kernel
theorem dX4_takes_99 : decode cX4_takes 99 = .ok (.ifCond .eq 7, 3) := by decide +kernel
theorem dX4_takes_102 : decode cX4_takes 102 = .ok (.iconst 1, 1) := by decide +kernel
theorem dX4_takes_103 : decode cX4_takes 103 = .ok (.goto 4, 3) := by decide +kernel
theorem dX4_takes_106 : decode cX4_takes 106 = .ok (.iconst 0, 1) := by decide +kernel
theorem dX4_takes_107 : decode cX4_takes 107 = .ok (.ireturn, 1) := by decide +kernel
theorem dX4_takesMove_0 : decode cX4_takesMove 0 = .ok (.aload_n 0, 1) := by decide +kernel
theorem dX4_takesMove_1 : decode cX4_takesMove 1 = .ok (.iload_n 1, 1) := by decide +kernel
theorem dX4_takesMove_2 : decode cX4_takesMove 2 = .ok (.invokevirtual 76, 3) := by decide +kernel
theorem dX4_takesMove_5 : decode cX4_takesMove 5 = .ok (.aload_n 0, 1) := by decide +kernel
theorem dX4_takesMove_6 : decode cX4_takesMove 6 = .ok (.iconst 1, 1) := by decide +kernel
theorem dX4_takesMove_7 : decode cX4_takesMove 7 = .ok (.putfield 42, 3) := by decide +kernel
theorem dX4_takesMove_10 : decode cX4_takesMove 10 = .ok (.iconst 1, 1) := by decide +kernel
theorem dX4_takesMove_11 : decode cX4_takesMove 11 = .ok (.ireturn, 1) := by decide +kernel
theorem dX4_takesOpening_0 : decode cX4_takesOpening 0 = .ok (.aload_n 0, 1) := by decide +kernel
theorem dX4_takesOpening_1 : decode cX4_takesOpening 1 = .ok (.getfield 39, 3) := by decide +kernel
theorem dX4_takesOpening_4 : decode cX4_takesOpening 4 = .ok (.ifCond .lt 11, 3) := by decide +kernel
theorem dX4_takesOpening_7 : decode cX4_takesOpening 7 = .ok (.aload_n 0, 1) := by decide +kernel
theorem dX4_takesOpening_8 : decode cX4_takesOpening 8 = .ok (.getfield 39, 3) := by decide +kernel
theorem dX4_takesOpening_11 : decode cX4_takesOpening 11 = .ok (.iconst 4, 1) := by decide +kernel
theorem dX4_takesOpening_12 : decode cX4_takesOpening 12 = .ok (.if_icmp .lt 5, 3) := by decide +kernel
theorem dX4_takesOpening_15 : decode cX4_takesOpening 15 = .ok (.iconst 0, 1) := by decide +kernel
theorem dX4_takesOpening_16 : decode cX4_takesOpening 16 = .ok (.ireturn, 1) := by decide +kernel
theorem dX4_takesOpening_17 : decode cX4_takesOpening 17 = .ok (.aload_n 0, 1) := by decide +kernel
theorem dX4_takesOpening_18 : decode cX4_takesOpening 18 = .ok (.getfield 30, 3) := by decide +kernel
theorem dX4_takesOpening_21 : decode cX4_takesOpening 21 = .ok (.aload_n 0, 1) := by decide +kernel
theorem dX4_takesOpening_22 : decode cX4_takesOpening 22 = .ok (.getfield 39, 3) := by decide +kernel
theorem dX4_takesOpening_25 : decode cX4_takesOpening 25 = .ok (.iload_n 1, 1) := by decide +kernel
theorem dX4_takesOpening_26 : decode cX4_takesOpening 26 = .ok (.iastore, 1) := by decide +kernel
theorem dX4_takesOpening_27 : decode cX4_takesOpening 27 = .ok (.aload_n 0, 1) := by decide +kernel
theorem dX4_takesOpening_28 : decode cX4_takesOpening 28 = .ok (.getfield 33, 3) := by decide +kernel
theorem dX4_takesOpening_31 : decode cX4_takesOpening 31 = .ok (.aload_n 0, 1) := by decide +kernel
theorem dX4_takesOpening_32 : decode cX4_takesOpening 32 = .ok (.getfield 39, 3) := by decide +kernel
theorem dX4_takesOpening_35 : decode cX4_takesOpening 35 = .ok (.aload_n 0, 1) := by decide +kernel
theorem dX4_takesOpening_36 : decode cX4_takesOpening 36 = .ok (.getfield 23, 3) := by decide +kernel
theorem dX4_takesOpening_39 : decode cX4_takesOpening 39 = .ok (.iastore, 1) := by decide +kernel
theorem dX4_takesOpening_40 : decode cX4_takesOpening 40 = .ok (.aload_n 0, 1) := by decide +kernel
theorem dX4_takesOpening_41 : decode cX4_takesOpening 41 = .ok (.getfield 36, 3) := by decide +kernel
theorem dX4_takesOpening_44 : decode cX4_takesOpening 44 = .ok (.aload_n 0, 1) := by decide +kernel
theorem dX4_takesOpening_45 : decode cX4_takesOpening 45 = .ok (.getfield 39, 3) := by decide +kernel
theorem dX4_takesOpening_48 : decode cX4_takesOpening 48 = .ok (.aload_n 0, 1) := by decide +kernel
theorem dX4_takesOpening_49 : decode cX4_takesOpening 49 = .ok (.getfield 23, 3) := by decide +kernel
theorem dX4_takesOpening_52 : decode cX4_takesOpening 52 = .ok (.iastore, 1) := by decide +kernel
theorem dX4_takesOpening_53 : decode cX4_takesOpening 53 = .ok (.aload_n 0, 1) := by decide +kernel
theorem dX4_takesOpening_54 : decode cX4_takesOpening 54 = .ok (.dup, 1) := by decide +kernel
theorem dX4_takesOpening_55 : decode cX4_takesOpening 55 = .ok (.getfield 39, 3) := by decide +kernel
theorem dX4_takesOpening_58 : decode cX4_takesOpening 58 = .ok (.iconst 1, 1) := by decide +kernel
theorem dX4_takesOpening_59 : decode cX4_takesOpening 59 = .ok (.iadd, 1) := by decide +kernel
theorem dX4_takesOpening_60 : decode cX4_takesOpening 60 = .ok (.putfield 39, 3) := by decide +kernel
theorem dX4_takesOpening_63 : decode cX4_takesOpening 63 = .ok (.aload_n 0, 1) := by decide +kernel
theorem dX4_takesOpening_64 : decode cX4_takesOpening 64 = .ok (.iconst 0, 1) := by decide +kernel
theorem dX4_takesOpening_65 : decode cX4_takesOpening 65 = .ok (.putfield 42, 3) := by decide +kernel
theorem dX4_takesOpening_68 : decode cX4_takesOpening 68 = .ok (.iconst 1, 1) := by decide +kernel
theorem dX4_takesOpening_69 : decode cX4_takesOpening 69 = .ok (.ireturn, 1) := by decide +kernel
theorem dX4_takesInBracket_0 : decode cX4_takesInBracket 0 = .ok (.aload_n 0, 1) := by decide +kernel
theorem dX4_takesInBracket_1 : decode cX4_takesInBracket 1 = .ok (.getfield 39, 3) := by decide +kernel
theorem dX4_takesInBracket_4 : decode cX4_takesInBracket 4 = .ok (.iconst 1, 1) := by decide +kernel
theorem dX4_takesInBracket_5 : decode cX4_takesInBracket 5 = .ok (.isub, 1) := by decide +kernel
theorem dX4_takesInBracket_6 : decode cX4_takesInBracket 6 = .ok (.istore_n 2, 1) := by decide +kernel
theorem dX4_takesInBracket_7 : decode cX4_takesInBracket 7 = .ok (.iload_n 2, 1) := by decide +kernel
theorem dX4_takesInBracket_8 : decode cX4_takesInBracket 8 = .ok (.ifCond .lt 8, 3) := by decide +kernel
theorem dX4_takesInBracket_11 : decode cX4_takesInBracket 11 = .ok (.iload_n 2, 1) := by decide +kernel
theorem dX4_takesInBracket_12 : decode cX4_takesInBracket 12 = .ok (.iconst 4, 1) := by decide +kernel
theorem dX4_takesInBracket_13 : decode cX4_takesInBracket 13 = .ok (.if_icmp .lt 5, 3) := by decide +kernel
theorem dX4_takesInBracket_16 : decode cX4_takesInBracket 16 = .ok (.iconst 0, 1) := by decide +kernel
theorem dX4_takesInBracket_17 : decode cX4_takesInBracket 17 = .ok (.ireturn, 1) := by decide +kernel
theorem dX4_takesInBracket_18 : decode cX4_takesInBracket 18 = .ok (.aload_n 0, 1) := by decide +kernel
theorem dX4_takesInBracket_19 : decode cX4_takesInBracket 19 = .ok (.getfield 30, 3) := by decide +kernel
theorem dX4_takesInBracket_22 : decode cX4_takesInBracket 22 = .ok (.iload_n 2, 1) := by decide +kernel
theorem dX4_takesInBracket_23 : decode cX4_takesInBracket 23 = .ok (.iaload, 1) := by decide +kernel
theorem dX4_takesInBracket_24 : decode cX4_takesInBracket 24 = .ok (.ifCond .ne 16, 3) := by decide +kernel
theorem dX4_takesInBracket_27 : decode cX4_takesInBracket 27 = .ok (.iload_n 1, 1) := by decide +kernel
theorem dX4_takesInBracket_28 : decode cX4_takesInBracket 28 = .ok (.bipush 41, 2) := by decide +kernel
theorem dX4_takesInBracket_30 : decode cX4_takesInBracket 30 = .ok (.if_icmp .ne 10, 3) := by decide +kernel
theorem dX4_takesInBracket_33 : decode cX4_takesInBracket 33 = .ok (.aload_n 0, 1) := by decide +kernel
theorem dX4_takesInBracket_34 : decode cX4_takesInBracket 34 = .ok (.iconst 1, 1) := by decide +kernel
theorem dX4_takesInBracket_35 : decode cX4_takesInBracket 35 = .ok (.putfield 45, 3) := by decide +kernel
theorem dX4_takesInBracket_38 : decode cX4_takesInBracket 38 = .ok (.iconst 1, 1) := by decide +kernel
theorem dX4_takesInBracket_39 : decode cX4_takesInBracket 39 = .ok (.ireturn, 1) := by decide +kernel
theorem dX4_takesInBracket_40 : decode cX4_takesInBracket 40 = .ok (.aload_n 0, 1) := by decide +kernel
theorem dX4_takesInBracket_41 : decode cX4_takesInBracket 41 = .ok (.getfield 30, 3) := by decide +kernel
theorem dX4_takesInBracket_44 : decode cX4_takesInBracket 44 = .ok (.iload_n 2, 1) := by decide +kernel
theorem dX4_takesInBracket_45 : decode cX4_takesInBracket 45 = .ok (.iaload, 1) := by decide +kernel
theorem dX4_takesInBracket_46 : decode cX4_takesInBracket 46 = .ok (.iconst 1, 1) := by decide +kernel
theorem dX4_takesInBracket_47 : decode cX4_takesInBracket 47 = .ok (.if_icmp .ne 33, 3) := by decide +kernel
theorem dX4_takesInBracket_50 : decode cX4_takesInBracket 50 = .ok (.iload_n 1, 1) := by decide +kernel
theorem dX4_takesInBracket_51 : decode cX4_takesInBracket 51 = .ok (.bipush 44, 2) := by decide +kernel
theorem dX4_takesInBracket_53 : decode cX4_takesInBracket 53 = .ok (.if_icmp .ne 27, 3) := by decide +kernel
theorem dX4_takesInBracket_56 : decode cX4_takesInBracket 56 = .ok (.aload_n 0, 1) := by decide +kernel
theorem dX4_takesInBracket_57 : decode cX4_takesInBracket 57 = .ok (.getfield 30, 3) := by decide +kernel
theorem dX4_takesInBracket_60 : decode cX4_takesInBracket 60 = .ok (.iload_n 2, 1) := by decide +kernel
theorem dX4_takesInBracket_61 : decode cX4_takesInBracket 61 = .ok (.iconst 2, 1) := by decide +kernel
theorem dX4_takesInBracket_62 : decode cX4_takesInBracket 62 = .ok (.iastore, 1) := by decide +kernel
theorem dX4_takesInBracket_63 : decode cX4_takesInBracket 63 = .ok (.aload_n 0, 1) := by decide +kernel
theorem dX4_takesInBracket_64 : decode cX4_takesInBracket 64 = .ok (.getfield 36, 3) := by decide +kernel
theorem dX4_takesInBracket_67 : decode cX4_takesInBracket 67 = .ok (.iload_n 2, 1) := by decide +kernel
theorem dX4_takesInBracket_68 : decode cX4_takesInBracket 68 = .ok (.aload_n 0, 1) := by decide +kernel
theorem dX4_takesInBracket_69 : decode cX4_takesInBracket 69 = .ok (.getfield 23, 3) := by decide +kernel
theorem dX4_takesInBracket_72 : decode cX4_takesInBracket 72 = .ok (.iastore, 1) := by decide +kernel
theorem dX4_takesInBracket_73 : decode cX4_takesInBracket 73 = .ok (.aload_n 0, 1) := by decide +kernel
theorem dX4_takesInBracket_74 : decode cX4_takesInBracket 74 = .ok (.iconst 0, 1) := by decide +kernel
theorem dX4_takesInBracket_75 : decode cX4_takesInBracket 75 = .ok (.putfield 42, 3) := by decide +kernel
theorem dX4_takesInBracket_78 : decode cX4_takesInBracket 78 = .ok (.iconst 1, 1) := by decide +kernel
theorem dX4_takesInBracket_79 : decode cX4_takesInBracket 79 = .ok (.ireturn, 1) := by decide +kernel
theorem dX4_takesInBracket_80 : decode cX4_takesInBracket 80 = .ok (.aload_n 0, 1) := by decide +kernel
theorem dX4_takesInBracket_81 : decode cX4_takesInBracket 81 = .ok (.getfield 30, 3) := by decide +kernel
theorem dX4_takesInBracket_84 : decode cX4_takesInBracket 84 = .ok (.iload_n 2, 1) := by decide +kernel
theorem dX4_takesInBracket_85 : decode cX4_takesInBracket 85 = .ok (.iaload, 1) := by decide +kernel
theorem dX4_takesInBracket_86 : decode cX4_takesInBracket 86 = .ok (.iconst 2, 1) := by decide +kernel
theorem dX4_takesInBracket_87 : decode cX4_takesInBracket 87 = .ok (.if_icmp .ne 36, 3) := by decide +kernel
theorem dX4_takesInBracket_90 : decode cX4_takesInBracket 90 = .ok (.iload_n 1, 1) := by decide +kernel
theorem dX4_takesInBracket_91 : decode cX4_takesInBracket 91 = .ok (.bipush 93, 2) := by decide +kernel
theorem dX4_takesInBracket_93 : decode cX4_takesInBracket 93 = .ok (.if_icmp .ne 30, 3) := by decide +kernel
theorem dX4_takesInBracket_96 : decode cX4_takesInBracket 96 = .ok (.aload_n 0, 1) := by decide +kernel
theorem dX4_takesInBracket_97 : decode cX4_takesInBracket 97 = .ok (.iload_n 2, 1) := by decide +kernel
theorem dX4_takesInBracket_98 : decode cX4_takesInBracket 98 = .ok (.putfield 39, 3) := by decide +kernel
theorem dX4_takesInBracket_101 : decode cX4_takesInBracket 101 = .ok (.aload_n 0, 1) := by decide +kernel
theorem dX4_takesInBracket_102 : decode cX4_takesInBracket 102 = .ok (.aload_n 0, 1) := by decide +kernel
theorem dX4_takesInBracket_103 : decode cX4_takesInBracket 103 = .ok (.getfield 33, 3) := by decide +kernel
theorem dX4_takesInBracket_106 : decode cX4_takesInBracket 106 = .ok (.iload_n 2, 1) := by decide +kernel
theorem dX4_takesInBracket_107 : decode cX4_takesInBracket 107 = .ok (.iaload, 1) := by decide +kernel
theorem dX4_takesInBracket_108 : decode cX4_takesInBracket 108 = .ok (.aload_n 0, 1) := by decide +kernel
theorem dX4_takesInBracket_109 : decode cX4_takesInBracket 109 = .ok (.getfield 36, 3) := by decide +kernel
theorem dX4_takesInBracket_112 : decode cX4_takesInBracket 112 = .ok (.iload_n 2, 1) := by decide +kernel
theorem dX4_takesInBracket_113 : decode cX4_takesInBracket 113 = .ok (.iaload, 1) := by decide +kernel
theorem dX4_takesInBracket_114 : decode cX4_takesInBracket 114 = .ok (.aload_n 0, 1) := by decide +kernel
theorem dX4_takesInBracket_115 : decode cX4_takesInBracket 115 = .ok (.getfield 23, 3) := by decide +kernel
theorem dX4_takesInBracket_118 : decode cX4_takesInBracket 118 = .ok (.invokevirtual 80, 3) := by decide +kernel
theorem dX4_takesInBracket_121 : decode cX4_takesInBracket 121 = .ok (.iconst 1, 1) := by decide +kernel
theorem dX4_takesInBracket_122 : decode cX4_takesInBracket 122 = .ok (.ireturn, 1) := by decide +kernel
theorem dX4_takesInBracket_123 : decode cX4_takesInBracket 123 = .ok (.iconst 0, 1) := by decide +kernel
theorem dX4_takesInBracket_124 : decode cX4_takesInBracket 124 = .ok (.ireturn, 1) := by decide +kernel
theorem dX4_takesFigure_0 : decode cX4_takesFigure 0 = .ok (.aload_n 0, 1) := by decide +kernel
theorem dX4_takesFigure_1 : decode cX4_takesFigure 1 = .ok (.getfield 39, 3) := by decide +kernel
theorem dX4_takesFigure_4 : decode cX4_takesFigure 4 = .ok (.iconst 1, 1) := by decide +kernel
theorem dX4_takesFigure_5 : decode cX4_takesFigure 5 = .ok (.isub, 1) := by decide +kernel
theorem dX4_takesFigure_6 : decode cX4_takesFigure 6 = .ok (.istore_n 2, 1) := by decide +kernel
theorem dX4_takesFigure_7 : decode cX4_takesFigure 7 = .ok (.iload_n 1, 1) := by decide +kernel
theorem dX4_takesFigure_8 : decode cX4_takesFigure 8 = .ok (.bipush 50, 2) := by decide +kernel
theorem dX4_takesFigure_10 : decode cX4_takesFigure 10 = .ok (.if_icmp .lt 18, 3) := by decide +kernel
theorem dX4_takesFigure_13 : decode cX4_takesFigure 13 = .ok (.iload_n 1, 1) := by decide +kernel
theorem dX4_takesFigure_14 : decode cX4_takesFigure 14 = .ok (.bipush 57, 2) := by decide +kernel
theorem dX4_takesFigure_16 : decode cX4_takesFigure 16 = .ok (.if_icmp .gt 12, 3) := by decide +kernel
theorem dX4_takesFigure_19 : decode cX4_takesFigure 19 = .ok (.iload_n 2, 1) := by decide +kernel
theorem dX4_takesFigure_20 : decode cX4_takesFigure 20 = .ok (.ifCond .lt 8, 3) := by decide +kernel
theorem dX4_takesFigure_23 : decode cX4_takesFigure 23 = .ok (.iload_n 2, 1) := by decide +kernel
theorem dX4_takesFigure_24 : decode cX4_takesFigure 24 = .ok (.iconst 4, 1) := by decide +kernel
theorem dX4_takesFigure_25 : decode cX4_takesFigure 25 = .ok (.if_icmp .lt 5, 3) := by decide +kernel
theorem dX4_takesFigure_28 : decode cX4_takesFigure 28 = .ok (.iconst 0, 1) := by decide +kernel
theorem dX4_takesFigure_29 : decode cX4_takesFigure 29 = .ok (.ireturn, 1) := by decide +kernel
theorem dX4_takesFigure_30 : decode cX4_takesFigure 30 = .ok (.aload_n 0, 1) := by decide +kernel
theorem dX4_takesFigure_31 : decode cX4_takesFigure 31 = .ok (.iconst 0, 1) := by decide +kernel
theorem dX4_takesFigure_32 : decode cX4_takesFigure 32 = .ok (.putfield 45, 3) := by decide +kernel
theorem dX4_takesFigure_35 : decode cX4_takesFigure 35 = .ok (.aload_n 0, 1) := by decide +kernel
theorem dX4_takesFigure_36 : decode cX4_takesFigure 36 = .ok (.iload_n 2, 1) := by decide +kernel
theorem dX4_takesFigure_37 : decode cX4_takesFigure 37 = .ok (.putfield 39, 3) := by decide +kernel
theorem dX4_takesFigure_40 : decode cX4_takesFigure 40 = .ok (.aload_n 0, 1) := by decide +kernel
theorem dX4_takesFigure_41 : decode cX4_takesFigure 41 = .ok (.aload_n 0, 1) := by decide +kernel
theorem dX4_takesFigure_42 : decode cX4_takesFigure 42 = .ok (.getfield 33, 3) := by decide +kernel
theorem dX4_takesFigure_45 : decode cX4_takesFigure 45 = .ok (.iload_n 2, 1) := by decide +kernel
theorem dX4_takesFigure_46 : decode cX4_takesFigure 46 = .ok (.iaload, 1) := by decide +kernel
theorem dX4_takesFigure_47 : decode cX4_takesFigure 47 = .ok (.iload_n 1, 1) := by decide +kernel
theorem dX4_takesFigure_48 : decode cX4_takesFigure 48 = .ok (.bipush 48, 2) := by decide +kernel
theorem dX4_takesFigure_50 : decode cX4_takesFigure 50 = .ok (.isub, 1) := by decide +kernel
theorem dX4_takesFigure_51 : decode cX4_takesFigure 51 = .ok (.invokevirtual 84, 3) := by decide +kernel
theorem dX4_takesFigure_54 : decode cX4_takesFigure 54 = .ok (.iconst 1, 1) := by decide +kernel
theorem dX4_takesFigure_55 : decode cX4_takesFigure 55 = .ok (.ireturn, 1) := by decide +kernel
theorem dX4_addMove_0 : decode cX4_addMove 0 = .ok (.aload_n 0, 1) := by decide +kernel
theorem dX4_addMove_1 : decode cX4_addMove 1 = .ok (.getfield 23, 3) := by decide +kernel
theorem dX4_addMove_4 : decode cX4_addMove 4 = .ok (.ifCond .lt 23, 3) := by decide +kernel
theorem dX4_addMove_7 : decode cX4_addMove 7 = .ok (.aload_n 0, 1) := by decide +kernel
theorem dX4_addMove_8 : decode cX4_addMove 8 = .ok (.getfield 23, 3) := by decide +kernel
theorem dX4_addMove_11 : decode cX4_addMove 11 = .ok (.sipush 500, 3) := by decide +kernel
theorem dX4_addMove_14 : decode cX4_addMove 14 = .ok (.if_icmp .ge 13, 3) := by decide +kernel
theorem dX4_addMove_17 : decode cX4_addMove 17 = .ok (.aload_n 0, 1) := by decide +kernel
theorem dX4_addMove_18 : decode cX4_addMove 18 = .ok (.getfield 19, 3) := by decide +kernel
theorem dX4_addMove_21 : decode cX4_addMove 21 = .ok (.aload_n 0, 1) := by decide +kernel
theorem dX4_addMove_22 : decode cX4_addMove 22 = .ok (.getfield 23, 3) := by decide +kernel
theorem dX4_addMove_25 : decode cX4_addMove 25 = .ok (.iload_n 1, 1) := by decide +kernel
theorem dX4_addMove_26 : decode cX4_addMove 26 = .ok (.iastore, 1) := by decide +kernel
theorem dX4_addMove_27 : decode cX4_addMove 27 = .ok (.aload_n 0, 1) := by decide +kernel
theorem dX4_addMove_28 : decode cX4_addMove 28 = .ok (.dup, 1) := by decide +kernel
theorem dX4_addMove_29 : decode cX4_addMove 29 = .ok (.getfield 23, 3) := by decide +kernel
theorem dX4_addMove_32 : decode cX4_addMove 32 = .ok (.iconst 1, 1) := by decide +kernel
theorem dX4_addMove_33 : decode cX4_addMove 33 = .ok (.iadd, 1) := by decide +kernel
theorem dX4_addMove_34 : decode cX4_addMove 34 = .ok (.putfield 23, 3) := by decide +kernel
theorem dX4_addMove_37 : decode cX4_addMove 37 = .ok (.return_, 1) := by decide +kernel
theorem dX4_repeat_0 : decode cX4_repeat 0 = .ok (.aload_n 0, 1) := by decide +kernel
theorem dX4_repeat_1 : decode cX4_repeat 1 = .ok (.getfield 23, 3) := by decide +kernel
theorem dX4_repeat_4 : decode cX4_repeat 4 = .ok (.iload_n 1, 1) := by decide +kernel
theorem dX4_repeat_5 : decode cX4_repeat 5 = .ok (.isub, 1) := by decide +kernel
theorem dX4_repeat_6 : decode cX4_repeat 6 = .ok (.istore_n 3, 1) := by decide +kernel
theorem dX4_repeat_7 : decode cX4_repeat 7 = .ok (.iload_n 1, 1) := by decide +kernel
theorem dX4_repeat_8 : decode cX4_repeat 8 = .ok (.iload_n 3, 1) := by decide +kernel
theorem dX4_repeat_9 : decode cX4_repeat 9 = .ok (.iload_n 2, 1) := by decide +kernel
theorem dX4_repeat_10 : decode cX4_repeat 10 = .ok (.imul, 1) := by decide +kernel
theorem dX4_repeat_11 : decode cX4_repeat 11 = .ok (.iadd, 1) := by decide +kernel
theorem dX4_repeat_12 : decode cX4_repeat 12 = .ok (.istore 4, 2) := by decide +kernel
theorem dX4_repeat_14 : decode cX4_repeat 14 = .ok (.aload_n 0, 1) := by decide +kernel
theorem dX4_repeat_15 : decode cX4_repeat 15 = .ok (.getfield 23, 3) := by decide +kernel
theorem dX4_repeat_18 : decode cX4_repeat 18 = .ok (.istore 5, 2) := by decide +kernel
theorem dX4_repeat_20 : decode cX4_repeat 20 = .ok (.iload 5, 2) := by decide +kernel
theorem dX4_repeat_22 : decode cX4_repeat 22 = .ok (.iload 4, 2) := by decide +kernel
theorem dX4_repeat_24 : decode cX4_repeat 24 = .ok (.if_icmp .ge 29, 3) := by decide +kernel
theorem dX4_repeat_27 : decode cX4_repeat 27 = .ok (.iload 5, 2) := by decide +kernel
theorem dX4_repeat_29 : decode cX4_repeat 29 = .ok (.sipush 500, 3) := by decide +kernel
theorem dX4_repeat_32 : decode cX4_repeat 32 = .ok (.if_icmp .ge 21, 3) := by decide +kernel
theorem dX4_repeat_35 : decode cX4_repeat 35 = .ok (.aload_n 0, 1) := by decide +kernel
theorem dX4_repeat_36 : decode cX4_repeat 36 = .ok (.aload_n 0, 1) := by decide +kernel
theorem dX4_repeat_37 : decode cX4_repeat 37 = .ok (.iload 5, 2) := by decide +kernel
theorem dX4_repeat_39 : decode cX4_repeat 39 = .ok (.iload_n 3, 1) := by decide +kernel
theorem dX4_repeat_40 : decode cX4_repeat 40 = .ok (.isub, 1) := by decide +kernel
theorem dX4_repeat_41 : decode cX4_repeat 41 = .ok (.invokevirtual 88, 3) := by decide +kernel
theorem dX4_repeat_44 : decode cX4_repeat 44 = .ok (.invokevirtual 76, 3) := by decide +kernel
theorem dX4_repeat_47 : decode cX4_repeat 47 = .ok (.iinc 5 1, 3) := by decide +kernel
theorem dX4_repeat_50 : decode cX4_repeat 50 = .ok (.goto (-30), 3) := by decide +kernel
theorem dX4_repeat_53 : decode cX4_repeat 53 = .ok (.aload_n 0, 1) := by decide +kernel
theorem dX4_repeat_54 : decode cX4_repeat 54 = .ok (.iload 4, 2) := by decide +kernel
theorem dX4_repeat_56 : decode cX4_repeat 56 = .ok (.putfield 23, 3) := by decide +kernel
theorem dX4_repeat_59 : decode cX4_repeat 59 = .ok (.return_, 1) := by decide +kernel
theorem dX4_addOpposite_0 : decode cX4_addOpposite 0 = .ok (.iload_n 3, 1) := by decide +kernel
theorem dX4_addOpposite_1 : decode cX4_addOpposite 1 = .ok (.iload_n 3, 1) := by decide +kernel
theorem dX4_addOpposite_2 : decode cX4_addOpposite 2 = .ok (.iadd, 1) := by decide +kernel
theorem dX4_addOpposite_3 : decode cX4_addOpposite 3 = .ok (.iload_n 1, 1) := by decide +kernel
theorem dX4_addOpposite_4 : decode cX4_addOpposite 4 = .ok (.isub, 1) := by decide +kernel
theorem dX4_addOpposite_5 : decode cX4_addOpposite 5 = .ok (.istore 4, 2) := by decide +kernel
theorem dX4_addOpposite_7 : decode cX4_addOpposite 7 = .ok (.iload_n 2, 1) := by decide +kernel
theorem dX4_addOpposite_8 : decode cX4_addOpposite 8 = .ok (.iconst 1, 1) := by decide +kernel
theorem dX4_addOpposite_9 : decode cX4_addOpposite 9 = .ok (.isub, 1) := by decide +kernel
theorem dX4_addOpposite_10 : decode cX4_addOpposite 10 = .ok (.istore 5, 2) := by decide +kernel
theorem dX4_addOpposite_12 : decode cX4_addOpposite 12 = .ok (.iload 5, 2) := by decide +kernel
theorem dX4_addOpposite_14 : decode cX4_addOpposite 14 = .ok (.iload_n 1, 1) := by decide +kernel
theorem dX4_addOpposite_15 : decode cX4_addOpposite 15 = .ok (.if_icmp .lt 32, 3) := by decide +kernel
theorem dX4_addOpposite_18 : decode cX4_addOpposite 18 = .ok (.aload_n 0, 1) := by decide +kernel
theorem dX4_addOpposite_19 : decode cX4_addOpposite 19 = .ok (.getfield 23, 3) := by decide +kernel
theorem dX4_addOpposite_22 : decode cX4_addOpposite 22 = .ok (.sipush 500, 3) := by decide +kernel
theorem dX4_addOpposite_25 : decode cX4_addOpposite 25 = .ok (.if_icmp .ge 22, 3) := by decide +kernel
theorem dX4_addOpposite_28 : decode cX4_addOpposite 28 = .ok (.aload_n 0, 1) := by decide +kernel
theorem dX4_addOpposite_29 : decode cX4_addOpposite 29 = .ok (.aload_n 0, 1) := by decide +kernel
theorem dX4_addOpposite_30 : decode cX4_addOpposite 30 = .ok (.iload 5, 2) := by decide +kernel
theorem dX4_addOpposite_32 : decode cX4_addOpposite 32 = .ok (.invokevirtual 88, 3) := by decide +kernel
theorem dX4_addOpposite_35 : decode cX4_addOpposite 35 = .ok (.invokestatic 92, 3) := by decide +kernel
theorem dX4_addOpposite_38 : decode cX4_addOpposite 38 = .ok (.invokevirtual 76, 3) := by decide +kernel
theorem dX4_addOpposite_41 : decode cX4_addOpposite 41 = .ok (.iinc 5 (-1), 3) := by decide +kernel
theorem dX4_addOpposite_44 : decode cX4_addOpposite 44 = .ok (.goto (-32), 3) := by decide +kernel
theorem dX4_addOpposite_47 : decode cX4_addOpposite 47 = .ok (.iload_n 3, 1) := by decide +kernel
theorem dX4_addOpposite_48 : decode cX4_addOpposite 48 = .ok (.iconst 1, 1) := by decide +kernel
theorem dX4_addOpposite_49 : decode cX4_addOpposite 49 = .ok (.isub, 1) := by decide +kernel
theorem dX4_addOpposite_50 : decode cX4_addOpposite 50 = .ok (.istore 5, 2) := by decide +kernel
theorem dX4_addOpposite_52 : decode cX4_addOpposite 52 = .ok (.iload 5, 2) := by decide +kernel
theorem dX4_addOpposite_54 : decode cX4_addOpposite 54 = .ok (.iload_n 2, 1) := by decide +kernel
theorem dX4_addOpposite_55 : decode cX4_addOpposite 55 = .ok (.if_icmp .lt 32, 3) := by decide +kernel
theorem dX4_addOpposite_58 : decode cX4_addOpposite 58 = .ok (.aload_n 0, 1) := by decide +kernel
theorem dX4_addOpposite_59 : decode cX4_addOpposite 59 = .ok (.getfield 23, 3) := by decide +kernel
theorem dX4_addOpposite_62 : decode cX4_addOpposite 62 = .ok (.sipush 500, 3) := by decide +kernel
theorem dX4_addOpposite_65 : decode cX4_addOpposite 65 = .ok (.if_icmp .ge 22, 3) := by decide +kernel
theorem dX4_addOpposite_68 : decode cX4_addOpposite 68 = .ok (.aload_n 0, 1) := by decide +kernel
theorem dX4_addOpposite_69 : decode cX4_addOpposite 69 = .ok (.aload_n 0, 1) := by decide +kernel
theorem dX4_addOpposite_70 : decode cX4_addOpposite 70 = .ok (.iload 5, 2) := by decide +kernel
theorem dX4_addOpposite_72 : decode cX4_addOpposite 72 = .ok (.invokevirtual 88, 3) := by decide +kernel
theorem dX4_addOpposite_75 : decode cX4_addOpposite 75 = .ok (.invokestatic 92, 3) := by decide +kernel
theorem dX4_addOpposite_78 : decode cX4_addOpposite 78 = .ok (.invokevirtual 76, 3) := by decide +kernel
theorem dX4_addOpposite_81 : decode cX4_addOpposite 81 = .ok (.iinc 5 (-1), 3) := by decide +kernel
theorem dX4_addOpposite_84 : decode cX4_addOpposite 84 = .ok (.goto (-32), 3) := by decide +kernel
theorem dX4_addOpposite_87 : decode cX4_addOpposite 87 = .ok (.aload_n 0, 1) := by decide +kernel
theorem dX4_addOpposite_88 : decode cX4_addOpposite 88 = .ok (.iload 4, 2) := by decide +kernel
theorem dX4_addOpposite_90 : decode cX4_addOpposite 90 = .ok (.putfield 23, 3) := by decide +kernel
theorem dX4_addOpposite_93 : decode cX4_addOpposite 93 = .ok (.return_, 1) := by decide +kernel
theorem dX5_init_0 : decode cX5_init 0 = .ok (.aload_n 0, 1) := by decide +kernel
theorem dX5_init_1 : decode cX5_init 1 = .ok (.invokespecial 3, 3) := by decide +kernel
theorem dX5_init_4 : decode cX5_init 4 = .ok (.aload_n 0, 1) := by decide +kernel
theorem dX5_init_5 : decode cX5_init 5 = .ok (.new 9, 3) := by decide +kernel
theorem dX5_init_8 : decode cX5_init 8 = .ok (.dup, 1) := by decide +kernel
theorem dX5_init_9 : decode cX5_init 9 = .ok (.invokespecial 11, 3) := by decide +kernel
theorem dX5_init_12 : decode cX5_init 12 = .ok (.putfield 12, 3) := by decide +kernel
theorem dX5_init_15 : decode cX5_init 15 = .ok (.aload_n 0, 1) := by decide +kernel
theorem dX5_init_16 : decode cX5_init 16 = .ok (.new 9, 3) := by decide +kernel
theorem dX5_init_19 : decode cX5_init 19 = .ok (.dup, 1) := by decide +kernel
theorem dX5_init_20 : decode cX5_init 20 = .ok (.invokespecial 11, 3) := by decide +kernel
theorem dX5_init_23 : decode cX5_init 23 = .ok (.putfield 16, 3) := by decide +kernel
theorem dX5_init_26 : decode cX5_init 26 = .ok (.aload_n 0, 1) := by decide +kernel
theorem dX5_init_27 : decode cX5_init 27 = .ok (.iconst 0, 1) := by decide +kernel
theorem dX5_init_28 : decode cX5_init 28 = .ok (.putfield 19, 3) := by decide +kernel
theorem dX5_init_31 : decode cX5_init 31 = .ok (.aload_n 0, 1) := by decide +kernel
theorem dX5_init_32 : decode cX5_init 32 = .ok (.bipush 6, 2) := by decide +kernel
theorem dX5_init_34 : decode cX5_init 34 = .ok (.anewarray 9, 3) := by decide +kernel
theorem dX5_init_37 : decode cX5_init 37 = .ok (.putfield 23, 3) := by decide +kernel
theorem dX5_init_40 : decode cX5_init 40 = .ok (.aload_n 0, 1) := by decide +kernel
theorem dX5_init_41 : decode cX5_init 41 = .ok (.iconst 0, 1) := by decide +kernel
theorem dX5_init_42 : decode cX5_init 42 = .ok (.putfield 27, 3) := by decide +kernel
theorem dX5_init_45 : decode cX5_init 45 = .ok (.aload_n 0, 1) := by decide +kernel
theorem dX5_init_46 : decode cX5_init 46 = .ok (.new 31, 3) := by decide +kernel
theorem dX5_init_49 : decode cX5_init 49 = .ok (.dup, 1) := by decide +kernel
theorem dX5_init_50 : decode cX5_init 50 = .ok (.invokespecial 33, 3) := by decide +kernel
theorem dX5_init_53 : decode cX5_init 53 = .ok (.putfield 34, 3) := by decide +kernel
theorem dX5_init_56 : decode cX5_init 56 = .ok (.aload_n 0, 1) := by decide +kernel
theorem dX5_init_57 : decode cX5_init 57 = .ok (.new 38, 3) := by decide +kernel
theorem dX5_init_60 : decode cX5_init 60 = .ok (.dup, 1) := by decide +kernel
theorem dX5_init_61 : decode cX5_init 61 = .ok (.invokespecial 40, 3) := by decide +kernel
theorem dX5_init_64 : decode cX5_init 64 = .ok (.putfield 41, 3) := by decide +kernel
theorem dX5_init_67 : decode cX5_init 67 = .ok (.aload_n 0, 1) := by decide +kernel
theorem dX5_init_68 : decode cX5_init 68 = .ok (.new 38, 3) := by decide +kernel
theorem dX5_init_71 : decode cX5_init 71 = .ok (.dup, 1) := by decide +kernel
theorem dX5_init_72 : decode cX5_init 72 = .ok (.invokespecial 40, 3) := by decide +kernel
theorem dX5_init_75 : decode cX5_init 75 = .ok (.putfield 45, 3) := by decide +kernel
theorem dX5_init_78 : decode cX5_init 78 = .ok (.aload_n 0, 1) := by decide +kernel
theorem dX5_init_79 : decode cX5_init 79 = .ok (.new 48, 3) := by decide +kernel
theorem dX5_init_82 : decode cX5_init 82 = .ok (.dup, 1) := by decide +kernel
theorem dX5_init_83 : decode cX5_init 83 = .ok (.invokespecial 50, 3) := by decide +kernel
theorem dX5_init_86 : decode cX5_init 86 = .ok (.putfield 51, 3) := by decide +kernel
theorem dX5_init_89 : decode cX5_init 89 = .ok (.iconst 0, 1) := by decide +kernel
theorem dX5_init_90 : decode cX5_init 90 = .ok (.istore_n 1, 1) := by decide +kernel
theorem dX5_init_91 : decode cX5_init 91 = .ok (.iload_n 1, 1) := by decide +kernel
theorem dX5_init_92 : decode cX5_init 92 = .ok (.bipush 6, 2) := by decide +kernel
theorem dX5_init_94 : decode cX5_init 94 = .ok (.if_icmp .ge 22, 3) := by decide +kernel
theorem dX5_init_97 : decode cX5_init 97 = .ok (.aload_n 0, 1) := by decide +kernel
theorem dX5_init_98 : decode cX5_init 98 = .ok (.getfield 23, 3) := by decide +kernel
theorem dX5_init_101 : decode cX5_init 101 = .ok (.iload_n 1, 1) := by decide +kernel
theorem dX5_init_102 : decode cX5_init 102 = .ok (.new 9, 3) := by decide +kernel
theorem dX5_init_105 : decode cX5_init 105 = .ok (.dup, 1) := by decide +kernel
theorem dX5_init_106 : decode cX5_init 106 = .ok (.invokespecial 11, 3) := by decide +kernel
theorem dX5_init_109 : decode cX5_init 109 = .ok (.aastore, 1) := by decide +kernel
theorem dX5_init_110 : decode cX5_init 110 = .ok (.iinc 1 1, 3) := by decide +kernel
theorem dX5_init_113 : decode cX5_init 113 = .ok (.goto (-22), 3) := by decide +kernel
theorem dX5_init_116 : decode cX5_init 116 = .ok (.return_, 1) := by decide +kernel
theorem dX5_turn_0 : decode cX5_turn 0 = .ok (.aload_n 0, 1) := by decide +kernel
theorem dX5_turn_1 : decode cX5_turn 1 = .ok (.iload_n 1, 1) := by decide +kernel
theorem dX5_turn_2 : decode cX5_turn 2 = .ok (.iconst 0, 1) := by decide +kernel
theorem dX5_turn_3 : decode cX5_turn 3 = .ok (.invokevirtual 55, 3) := by decide +kernel
theorem dX5_turn_6 : decode cX5_turn 6 = .ok (.ireturn, 1) := by decide +kernel
theorem dX5_back_0 : decode cX5_back 0 = .ok (.aload_n 0, 1) := by decide +kernel
theorem dX5_back_1 : decode cX5_back 1 = .ok (.iload_n 1, 1) := by decide +kernel
theorem dX5_back_2 : decode cX5_back 2 = .ok (.iconst 1, 1) := by decide +kernel
theorem dX5_back_3 : decode cX5_back 3 = .ok (.invokevirtual 55, 3) := by decide +kernel
theorem dX5_back_6 : decode cX5_back 6 = .ok (.ireturn, 1) := by decide +kernel
theorem dX5_word_0 : decode cX5_word 0 = .ok (.aload_n 0, 1) := by decide +kernel
theorem dX5_word_1 : decode cX5_word 1 = .ok (.getfield 34, 3) := by decide +kernel
theorem dX5_word_4 : decode cX5_word 4 = .ok (.invokevirtual 59, 3) := by decide +kernel
theorem dX5_word_7 : decode cX5_word 7 = .ok (.pop, 1) := by decide +kernel
theorem dX5_word_8 : decode cX5_word 8 = .ok (.aload_n 0, 1) := by decide +kernel
theorem dX5_word_9 : decode cX5_word 9 = .ok (.getfield 34, 3) := by decide +kernel
theorem dX5_word_12 : decode cX5_word 12 = .ok (.getfield 63, 3) := by decide +kernel
theorem dX5_word_15 : decode cX5_word 15 = .ok (.ifCond .ne 13, 3) := by decide +kernel
theorem dX5_word_18 : decode cX5_word 18 = .ok (.new 66, 3) := by decide +kernel
theorem dX5_word_21 : decode cX5_word 21 = .ok (.dup, 1) := by decide +kernel
theorem dX5_word_22 : decode cX5_word 22 = .ok (.ldc 68, 2) := by decide +kernel
theorem dX5_word_24 : decode cX5_word 24 = .ok (.invokespecial 70, 3) := by decide +kernel
theorem dX5_word_27 : decode cX5_word 27 = .ok (.athrow, 1) := by decide +kernel
theorem dX5_word_28 : decode cX5_word 28 = .ok (.aload_n 0, 1) := by decide +kernel
theorem dX5_word_29 : decode cX5_word 29 = .ok (.getfield 34, 3) := by decide +kernel
theorem dX5_word_32 : decode cX5_word 32 = .ok (.getfield 73, 3) := by decide +kernel
theorem dX5_word_35 : decode cX5_word 35 = .ok (.sipush 500, 3) := by decide +kernel
theorem dX5_word_38 : decode cX5_word 38 = .ok (.if_icmp .le 13, 3) := by decide +kernel
theorem dX5_word_41 : decode cX5_word 41 = .ok (.new 76, 3) := by decide +kernel
theorem dX5_word_44 : decode cX5_word 44 = .ok (.dup, 1) := by decide +kernel
theorem dX5_word_45 : decode cX5_word 45 = .ok (.ldc 78, 2) := by decide +kernel
theorem dX5_word_47 : decode cX5_word 47 = .ok (.invokespecial 80, 3) := by decide +kernel
theorem dX5_word_50 : decode cX5_word 50 = .ok (.athrow, 1) := by decide +kernel
theorem dX5_word_51 : decode cX5_word 51 = .ok (.aload_n 0, 1) := by decide +kernel
theorem dX5_word_52 : decode cX5_word 52 = .ok (.invokevirtual 81, 3) := by decide +kernel
theorem dX5_word_55 : decode cX5_word 55 = .ok (.iconst 0, 1) := by decide +kernel
theorem dX5_word_56 : decode cX5_word 56 = .ok (.istore_n 1, 1) := by decide +kernel
theorem dX5_word_57 : decode cX5_word 57 = .ok (.iload_n 1, 1) := by decide +kernel
theorem dX5_word_58 : decode cX5_word 58 = .ok (.aload_n 0, 1) := by decide +kernel
theorem dX5_word_59 : decode cX5_word 59 = .ok (.getfield 34, 3) := by decide +kernel
theorem dX5_word_62 : decode cX5_word 62 = .ok (.getfield 73, 3) := by decide +kernel
theorem dX5_word_65 : decode cX5_word 65 = .ok (.if_icmp .ge 42, 3) := by decide +kernel
theorem dX5_word_68 : decode cX5_word 68 = .ok (.aload_n 0, 1) := by decide +kernel
theorem dX5_word_69 : decode cX5_word 69 = .ok (.getfield 12, 3) := by decide +kernel
theorem dX5_word_72 : decode cX5_word 72 = .ok (.aload_n 0, 1) := by decide +kernel
theorem dX5_word_73 : decode cX5_word 73 = .ok (.getfield 34, 3) := by decide +kernel
theorem dX5_word_76 : decode cX5_word 76 = .ok (.iload_n 1, 1) := by decide +kernel
theorem dX5_word_77 : decode cX5_word 77 = .ok (.invokevirtual 84, 3) := by decide +kernel
theorem dX5_word_80 : decode cX5_word 80 = .ok (.invokevirtual 88, 3) := by decide +kernel
theorem dX5_word_83 : decode cX5_word 83 = .ok (.ifCond .eq 24, 3) := by decide +kernel
theorem dX5_word_86 : decode cX5_word 86 = .ok (.aload_n 0, 1) := by decide +kernel
theorem dX5_word_87 : decode cX5_word 87 = .ok (.getfield 12, 3) := by decide +kernel
theorem dX5_word_90 : decode cX5_word 90 = .ok (.aload_n 0, 1) := by decide +kernel
theorem dX5_word_91 : decode cX5_word 91 = .ok (.getfield 34, 3) := by decide +kernel
theorem dX5_word_94 : decode cX5_word 94 = .ok (.iload_n 1, 1) := by decide +kernel
theorem dX5_word_95 : decode cX5_word 95 = .ok (.invokevirtual 84, 3) := by decide +kernel
theorem dX5_word_98 : decode cX5_word 98 = .ok (.invokevirtual 92, 3) := by decide +kernel
theorem dX5_word_101 : decode cX5_word 101 = .ok (.iinc 1 1, 3) := by decide +kernel
theorem dX5_word_104 : decode cX5_word 104 = .ok (.goto (-47), 3) := by decide +kernel
theorem dX5_word_107 : decode cX5_word 107 = .ok (.aload_n 0, 1) := by decide +kernel
theorem dX5_word_108 : decode cX5_word 108 = .ok (.getfield 34, 3) := by decide +kernel
theorem dX5_word_111 : decode cX5_word 111 = .ok (.iconst 0, 1) := by decide +kernel
theorem dX5_word_112 : decode cX5_word 112 = .ok (.putfield 96, 3) := by decide +kernel
theorem dX5_word_115 : decode cX5_word 115 = .ok (.iload_n 1, 1) := by decide +kernel
theorem dX5_word_116 : decode cX5_word 116 = .ok (.ireturn, 1) := by decide +kernel
theorem dX5_home_0 : decode cX5_home 0 = .ok (.aload_n 0, 1) := by decide +kernel
theorem dX5_home_1 : decode cX5_home 1 = .ok (.invokevirtual 81, 3) := by decide +kernel
theorem dX5_home_4 : decode cX5_home 4 = .ok (.aload_n 0, 1) := by decide +kernel
theorem dX5_home_5 : decode cX5_home 5 = .ok (.getfield 12, 3) := by decide +kernel
theorem dX5_home_8 : decode cX5_home 8 = .ok (.getfield 99, 3) := by decide +kernel
theorem dX5_home_11 : decode cX5_home 11 = .ok (.invokevirtual 102, 3) := by decide +kernel
theorem dX5_home_14 : decode cX5_home 14 = .ok (.invokestatic 105, 3) := by decide +kernel
theorem dX5_home_17 : decode cX5_home 17 = .ok (.istore_n 1, 1) := by decide +kernel
theorem dX5_home_18 : decode cX5_home 18 = .ok (.aload_n 0, 1) := by decide +kernel
theorem dX5_home_19 : decode cX5_home 19 = .ok (.getfield 12, 3) := by decide +kernel
theorem dX5_home_22 : decode cX5_home 22 = .ok (.getfield 99, 3) := by decide +kernel
theorem dX5_home_25 : decode cX5_home 25 = .ok (.invokevirtual 110, 3) := by decide +kernel
theorem dX5_home_28 : decode cX5_home 28 = .ok (.aload_n 0, 1) := by decide +kernel
theorem dX5_home_29 : decode cX5_home 29 = .ok (.getfield 12, 3) := by decide +kernel
theorem dX5_home_32 : decode cX5_home 32 = .ok (.iconst 0, 1) := by decide +kernel
theorem dX5_home_33 : decode cX5_home 33 = .ok (.putfield 113, 3) := by decide +kernel
theorem dX5_home_36 : decode cX5_home 36 = .ok (.iload_n 1, 1) := by decide +kernel
theorem dX5_home_37 : decode cX5_home 37 = .ok (.ireturn, 1) := by decide +kernel
theorem dX5_cut_0 : decode cX5_cut 0 = .ok (.iload_n 1, 1) := by decide +kernel
theorem dX5_cut_1 : decode cX5_cut 1 = .ok (.invokestatic 116, 3) := by decide +kernel
theorem dX5_cut_4 : decode cX5_cut 4 = .ok (.iload_n 2, 1) := by decide +kernel
theorem dX5_cut_5 : decode cX5_cut 5 = .ok (.invokestatic 119, 3) := by decide +kernel
theorem dX5_cut_8 : decode cX5_cut 8 = .ok (.ifCond .eq 12, 3) := by decide +kernel
theorem dX5_cut_11 : decode cX5_cut 11 = .ok (.iload_n 3, 1) := by decide +kernel
theorem dX5_cut_12 : decode cX5_cut 12 = .ok (.ifCond .lt 8, 3) := by decide +kernel
theorem dX5_cut_15 : decode cX5_cut 15 = .ok (.iload_n 3, 1) := by decide +kernel
theorem dX5_cut_16 : decode cX5_cut 16 = .ok (.iconst 5, 1) := by decide +kernel
theorem dX5_cut_17 : decode cX5_cut 17 = .ok (.if_icmp .lt 13, 3) := by decide +kernel
theorem dX5_cut_20 : decode cX5_cut 20 = .ok (.new 66, 3) := by decide +kernel
theorem dX5_cut_23 : decode cX5_cut 23 = .ok (.dup, 1) := by decide +kernel
theorem dX5_cut_24 : decode cX5_cut 24 = .ok (.ldc 122, 2) := by decide +kernel
theorem dX5_cut_26 : decode cX5_cut 26 = .ok (.invokespecial 70, 3) := by decide +kernel
theorem dX5_cut_29 : decode cX5_cut 29 = .ok (.athrow, 1) := by decide +kernel
theorem dX5_cut_30 : decode cX5_cut 30 = .ok (.aload_n 0, 1) := by decide +kernel
theorem dX5_cut_31 : decode cX5_cut 31 = .ok (.invokevirtual 81, 3) := by decide +kernel
theorem dX5_cut_34 : decode cX5_cut 34 = .ok (.aload_n 0, 1) := by decide +kernel
theorem dX5_cut_35 : decode cX5_cut 35 = .ok (.getfield 12, 3) := by decide +kernel
theorem dX5_cut_38 : decode cX5_cut 38 = .ok (.getfield 124, 3) := by decide +kernel
theorem dX5_cut_41 : decode cX5_cut 41 = .ok (.iload_n 1, 1) := by decide +kernel
theorem dX5_cut_42 : decode cX5_cut 42 = .ok (.invokevirtual 128, 3) := by decide +kernel
theorem dX5_cut_45 : decode cX5_cut 45 = .ok (.istore 4, 2) := by decide +kernel
theorem dX5_cut_47 : decode cX5_cut 47 = .ok (.aload_n 0, 1) := by decide +kernel
theorem dX5_cut_48 : decode cX5_cut 48 = .ok (.getfield 12, 3) := by decide +kernel
theorem dX5_cut_51 : decode cX5_cut 51 = .ok (.getfield 124, 3) := by decide +kernel
theorem dX5_cut_54 : decode cX5_cut 54 = .ok (.iload_n 1, 1) := by decide +kernel
theorem dX5_cut_55 : decode cX5_cut 55 = .ok (.iload_n 2, 1) := by decide +kernel
theorem dX5_cut_56 : decode cX5_cut 56 = .ok (.iload_n 3, 1) := by decide +kernel
theorem dX5_cut_57 : decode cX5_cut 57 = .ok (.invokevirtual 133, 3) := by decide +kernel
theorem dX5_cut_60 : decode cX5_cut 60 = .ok (.iload 4, 2) := by decide +kernel
theorem dX5_cut_62 : decode cX5_cut 62 = .ok (.ireturn, 1) := by decide +kernel
theorem dX5_stick_0 : decode cX5_stick 0 = .ok (.iload_n 1, 1) := by decide +kernel
theorem dX5_stick_1 : decode cX5_stick 1 = .ok (.invokestatic 137, 3) := by decide +kernel
theorem dX5_stick_4 : decode cX5_stick 4 = .ok (.aload_n 0, 1) := by decide +kernel
theorem dX5_stick_5 : decode cX5_stick 5 = .ok (.invokevirtual 81, 3) := by decide +kernel
theorem dX5_stick_8 : decode cX5_stick 8 = .ok (.aload_n 0, 1) := by decide +kernel
theorem dX5_stick_9 : decode cX5_stick 9 = .ok (.getfield 12, 3) := by decide +kernel
theorem dX5_stick_12 : decode cX5_stick 12 = .ok (.aload_n 0, 1) := by decide +kernel
theorem dX5_stick_13 : decode cX5_stick 13 = .ok (.getfield 12, 3) := by decide +kernel
theorem dX5_stick_16 : decode cX5_stick 16 = .ok (.getfield 140, 3) := by decide +kernel
theorem dX5_stick_19 : decode cX5_stick 19 = .ok (.iconst 1, 1) := by decide +kernel
theorem dX5_stick_20 : decode cX5_stick 20 = .ok (.iload_n 1, 1) := by decide +kernel
theorem dX5_stick_21 : decode cX5_stick 21 = .ok (.ishl, 1) := by decide +kernel
theorem dX5_stick_22 : decode cX5_stick 22 = .ok (.ixor, 1) := by decide +kernel
theorem dX5_stick_23 : decode cX5_stick 23 = .ok (.putfield 140, 3) := by decide +kernel
theorem dX5_stick_26 : decode cX5_stick 26 = .ok (.aload_n 0, 1) := by decide +kernel
theorem dX5_stick_27 : decode cX5_stick 27 = .ok (.getfield 12, 3) := by decide +kernel
theorem dX5_stick_30 : decode cX5_stick 30 = .ok (.invokevirtual 143, 3) := by decide +kernel
theorem dX5_stick_33 : decode cX5_stick 33 = .ok (.ireturn, 1) := by decide +kernel
theorem dX5_learn_0 : decode cX5_learn 0 = .ok (.aload_n 0, 1) := by decide +kernel
theorem dX5_learn_1 : decode cX5_learn 1 = .ok (.invokevirtual 81, 3) := by decide +kernel
theorem dX5_learn_4 : decode cX5_learn 4 = .ok (.aload_n 0, 1) := by decide +kernel
theorem dX5_learn_5 : decode cX5_learn 5 = .ok (.getfield 12, 3) := by decide +kernel
theorem dX5_learn_8 : decode cX5_learn 8 = .ok (.getfield 146, 3) := by decide +kernel
theorem dX5_learn_11 : decode cX5_learn 11 = .ok (.aload_n 0, 1) := by decide +kernel
theorem dX5_learn_12 : decode cX5_learn 12 = .ok (.getfield 12, 3) := by decide +kernel
theorem dX5_learn_15 : decode cX5_learn 15 = .ok (.getfield 99, 3) := by decide +kernel
theorem dX5_learn_18 : decode cX5_learn 18 = .ok (.invokevirtual 149, 3) := by decide +kernel
theorem dX5_learn_21 : decode cX5_learn 21 = .ok (.aload_n 0, 1) := by decide +kernel
theorem dX5_learn_22 : decode cX5_learn 22 = .ok (.getfield 12, 3) := by decide +kernel
theorem dX5_learn_25 : decode cX5_learn 25 = .ok (.iconst 1, 1) := by decide +kernel
theorem dX5_learn_26 : decode cX5_learn 26 = .ok (.putfield 153, 3) := by decide +kernel
theorem dX5_learn_29 : decode cX5_learn 29 = .ok (.aload_n 0, 1) := by decide +kernel
theorem dX5_learn_30 : decode cX5_learn 30 = .ok (.getfield 12, 3) := by decide +kernel
theorem dX5_learn_33 : decode cX5_learn 33 = .ok (.getfield 99, 3) := by decide +kernel
theorem dX5_learn_36 : decode cX5_learn 36 = .ok (.invokevirtual 156, 3) := by decide +kernel
theorem dX5_learn_39 : decode cX5_learn 39 = .ok (.ireturn, 1) := by decide +kernel
theorem dX5_append_0 : decode cX5_append 0 = .ok (.iload_n 1, 1) := by decide +kernel
theorem dX5_append_1 : decode cX5_append 1 = .ok (.bipush 33, 2) := by decide +kernel
theorem dX5_append_3 : decode cX5_append 3 = .ok (.if_icmp .lt 9, 3) := by decide +kernel
theorem dX5_append_6 : decode cX5_append 6 = .ok (.iload_n 1, 1) := by decide +kernel
theorem dX5_append_7 : decode cX5_append 7 = .ok (.bipush 126, 2) := by decide +kernel
theorem dX5_append_9 : decode cX5_append 9 = .ok (.if_icmp .le 13, 3) := by decide +kernel
theorem dX5_append_12 : decode cX5_append 12 = .ok (.new 66, 3) := by decide +kernel
theorem dX5_append_15 : decode cX5_append 15 = .ok (.dup, 1) := by decide +kernel
theorem dX5_append_16 : decode cX5_append 16 = .ok (.ldc 159, 2) := by decide +kernel
theorem dX5_append_18 : decode cX5_append 18 = .ok (.invokespecial 70, 3) := by decide +kernel
theorem dX5_append_21 : decode cX5_append 21 = .ok (.athrow, 1) := by decide +kernel
theorem dX5_append_22 : decode cX5_append 22 = .ok (.aload_n 0, 1) := by decide +kernel
theorem dX5_append_23 : decode cX5_append 23 = .ok (.getfield 34, 3) := by decide +kernel
theorem dX5_append_26 : decode cX5_append 26 = .ok (.getfield 96, 3) := by decide +kernel
theorem dX5_append_29 : decode cX5_append 29 = .ok (.bipush 60, 2) := by decide +kernel
theorem dX5_append_31 : decode cX5_append 31 = .ok (.if_icmp .lt 13, 3) := by decide +kernel
theorem dX5_append_34 : decode cX5_append 34 = .ok (.new 76, 3) := by decide +kernel
theorem dX5_append_37 : decode cX5_append 37 = .ok (.dup, 1) := by decide +kernel
theorem dX5_append_38 : decode cX5_append 38 = .ok (.ldc 161, 2) := by decide +kernel
theorem dX5_append_40 : decode cX5_append 40 = .ok (.invokespecial 80, 3) := by decide +kernel
theorem dX5_append_43 : decode cX5_append 43 = .ok (.athrow, 1) := by decide +kernel
theorem dX5_append_44 : decode cX5_append 44 = .ok (.aload_n 0, 1) := by decide +kernel
theorem dX5_append_45 : decode cX5_append 45 = .ok (.getfield 34, 3) := by decide +kernel
theorem dX5_append_48 : decode cX5_append 48 = .ok (.iload_n 1, 1) := by decide +kernel
theorem dX5_append_49 : decode cX5_append 49 = .ok (.i2c, 1) := by decide +kernel
theorem dX5_append_50 : decode cX5_append 50 = .ok (.invokevirtual 163, 3) := by decide +kernel
theorem dX5_append_53 : decode cX5_append 53 = .ok (.aload_n 0, 1) := by decide +kernel
theorem dX5_append_54 : decode cX5_append 54 = .ok (.getfield 34, 3) := by decide +kernel
theorem dX5_append_57 : decode cX5_append 57 = .ok (.getfield 96, 3) := by decide +kernel
theorem dX5_append_60 : decode cX5_append 60 = .ok (.ireturn, 1) := by decide +kernel
theorem dX5_clearBuffer_0 : decode cX5_clearBuffer 0 = .ok (.aload_n 0, 1) := by decide +kernel
theorem dX5_clearBuffer_1 : decode cX5_clearBuffer 1 = .ok (.getfield 34, 3) := by decide +kernel
theorem dX5_clearBuffer_4 : decode cX5_clearBuffer 4 = .ok (.getfield 96, 3) := by decide +kernel
theorem dX5_clearBuffer_7 : decode cX5_clearBuffer 7 = .ok (.istore_n 1, 1) := by decide +kernel
theorem dX5_clearBuffer_8 : decode cX5_clearBuffer 8 = .ok (.aload_n 0, 1) := by decide +kernel
theorem dX5_clearBuffer_9 : decode cX5_clearBuffer 9 = .ok (.getfield 34, 3) := by decide +kernel
theorem dX5_clearBuffer_12 : decode cX5_clearBuffer 12 = .ok (.iconst 0, 1) := by decide +kernel
theorem dX5_clearBuffer_13 : decode cX5_clearBuffer 13 = .ok (.putfield 96, 3) := by decide +kernel
theorem dX5_clearBuffer_16 : decode cX5_clearBuffer 16 = .ok (.iload_n 1, 1) := by decide +kernel
theorem dX5_clearBuffer_17 : decode cX5_clearBuffer 17 = .ok (.ireturn, 1) := by decide +kernel
theorem dX5_firstError_0 : decode cX5_firstError 0 = .ok (.aload_n 0, 1) := by decide +kernel
theorem dX5_firstError_1 : decode cX5_firstError 1 = .ok (.getfield 34, 3) := by decide +kernel
theorem dX5_firstError_4 : decode cX5_firstError 4 = .ok (.invokevirtual 59, 3) := by decide +kernel
theorem dX5_firstError_7 : decode cX5_firstError 7 = .ok (.ireturn, 1) := by decide +kernel
theorem dX5_keep_0 : decode cX5_keep 0 = .ok (.aload_n 0, 1) := by decide +kernel
theorem dX5_keep_1 : decode cX5_keep 1 = .ok (.getfield 16, 3) := by decide +kernel
theorem dX5_keep_4 : decode cX5_keep 4 = .ok (.aload_n 0, 1) := by decide +kernel
theorem dX5_keep_5 : decode cX5_keep 5 = .ok (.getfield 12, 3) := by decide +kernel
theorem dX5_keep_8 : decode cX5_keep 8 = .ok (.invokevirtual 167, 3) := by decide +kernel
theorem dX5_keep_11 : decode cX5_keep 11 = .ok (.aload_n 0, 1) := by decide +kernel
theorem dX5_keep_12 : decode cX5_keep 12 = .ok (.iconst 1, 1) := by decide +kernel
theorem dX5_keep_13 : decode cX5_keep 13 = .ok (.putfield 19, 3) := by decide +kernel
theorem dX5_keep_16 : decode cX5_keep 16 = .ok (.aload_n 0, 1) := by decide +kernel
theorem dX5_keep_17 : decode cX5_keep 17 = .ok (.getfield 12, 3) := by decide +kernel
theorem dX5_keep_20 : decode cX5_keep 20 = .ok (.getfield 170, 3) := by decide +kernel
theorem dX5_keep_23 : decode cX5_keep 23 = .ok (.ireturn, 1) := by decide +kernel
theorem dX5_goBack_0 : decode cX5_goBack 0 = .ok (.aload_n 0, 1) := by decide +kernel
theorem dX5_goBack_1 : decode cX5_goBack 1 = .ok (.getfield 19, 3) := by decide +kernel
theorem dX5_goBack_4 : decode cX5_goBack 4 = .ok (.ifCond .ne 13, 3) := by decide +kernel
theorem dX5_goBack_7 : decode cX5_goBack 7 = .ok (.new 76, 3) := by decide +kernel
theorem dX5_goBack_10 : decode cX5_goBack 10 = .ok (.dup, 1) := by decide +kernel
theorem dX5_goBack_11 : decode cX5_goBack 11 = .ok (.ldc 173, 2) := by decide +kernel
theorem dX5_goBack_13 : decode cX5_goBack 13 = .ok (.invokespecial 80, 3) := by decide +kernel
theorem dX5_goBack_16 : decode cX5_goBack 16 = .ok (.athrow, 1) := by decide +kernel
theorem dX5_goBack_17 : decode cX5_goBack 17 = .ok (.aload_n 0, 1) := by decide +kernel
theorem dX5_goBack_18 : decode cX5_goBack 18 = .ok (.invokevirtual 81, 3) := by decide +kernel
theorem dX5_goBack_21 : decode cX5_goBack 21 = .ok (.aload_n 0, 1) := by decide +kernel
theorem dX5_goBack_22 : decode cX5_goBack 22 = .ok (.getfield 12, 3) := by decide +kernel
theorem dX5_goBack_25 : decode cX5_goBack 25 = .ok (.aload_n 0, 1) := by decide +kernel
theorem dX5_goBack_26 : decode cX5_goBack 26 = .ok (.getfield 16, 3) := by decide +kernel
theorem dX5_goBack_29 : decode cX5_goBack 29 = .ok (.invokevirtual 167, 3) := by decide +kernel
theorem dX5_goBack_32 : decode cX5_goBack 32 = .ok (.aload_n 0, 1) := by decide +kernel
theorem dX5_goBack_33 : decode cX5_goBack 33 = .ok (.getfield 12, 3) := by decide +kernel
theorem dX5_goBack_36 : decode cX5_goBack 36 = .ok (.getfield 170, 3) := by decide +kernel
theorem dX5_goBack_39 : decode cX5_goBack 39 = .ok (.ireturn, 1) := by decide +kernel
theorem dX5_undo_0 : decode cX5_undo 0 = .ok (.aload_n 0, 1) := by decide +kernel
theorem dX5_undo_1 : decode cX5_undo 1 = .ok (.getfield 27, 3) := by decide +kernel
theorem dX5_undo_4 : decode cX5_undo 4 = .ok (.ifCond .le 12, 3) := by decide +kernel
theorem dX5_undo_7 : decode cX5_undo 7 = .ok (.aload_n 0, 1) := by decide +kernel
theorem dX5_undo_8 : decode cX5_undo 8 = .ok (.getfield 27, 3) := by decide +kernel
theorem dX5_undo_11 : decode cX5_undo 11 = .ok (.bipush 6, 2) := by decide +kernel
theorem dX5_undo_13 : decode cX5_undo 13 = .ok (.if_icmp .le 13, 3) := by decide +kernel
theorem dX5_undo_16 : decode cX5_undo 16 = .ok (.new 76, 3) := by decide +kernel
theorem dX5_undo_19 : decode cX5_undo 19 = .ok (.dup, 1) := by decide +kernel
theorem dX5_undo_20 : decode cX5_undo 20 = .ok (.ldc 175, 2) := by decide +kernel
theorem dX5_undo_22 : decode cX5_undo 22 = .ok (.invokespecial 80, 3) := by decide +kernel
theorem dX5_undo_25 : decode cX5_undo 25 = .ok (.athrow, 1) := by decide +kernel
theorem dX5_undo_26 : decode cX5_undo 26 = .ok (.aload_n 0, 1) := by decide +kernel
theorem dX5_undo_27 : decode cX5_undo 27 = .ok (.dup, 1) := by decide +kernel
theorem dX5_undo_28 : decode cX5_undo 28 = .ok (.getfield 27, 3) := by decide +kernel
theorem dX5_undo_31 : decode cX5_undo 31 = .ok (.iconst 1, 1) := by decide +kernel
theorem dX5_undo_32 : decode cX5_undo 32 = .ok (.isub, 1) := by decide +kernel
theorem dX5_undo_33 : decode cX5_undo 33 = .ok (.putfield 27, 3) := by decide +kernel
theorem dX5_undo_36 : decode cX5_undo 36 = .ok (.aload_n 0, 1) := by decide +kernel
theorem dX5_undo_37 : decode cX5_undo 37 = .ok (.getfield 23, 3) := by decide +kernel
theorem dX5_undo_40 : decode cX5_undo 40 = .ok (.aload_n 0, 1) := by decide +kernel
theorem dX5_undo_41 : decode cX5_undo 41 = .ok (.getfield 27, 3) := by decide +kernel
theorem dX5_undo_44 : decode cX5_undo 44 = .ok (.aaload, 1) := by decide +kernel
theorem dX5_undo_45 : decode cX5_undo 45 = .ok (.astore_n 1, 1) := by decide +kernel
theorem dX5_undo_46 : decode cX5_undo 46 = .ok (.aload_n 1, 1) := by decide +kernel
theorem dX5_undo_47 : decode cX5_undo 47 = .ok (.ifnull 11, 3) := by decide +kernel
theorem dX5_undo_50 : decode cX5_undo 50 = .ok (.aload_n 0, 1) := by decide +kernel
theorem dX5_undo_51 : decode cX5_undo 51 = .ok (.getfield 12, 3) := by decide +kernel
theorem dX5_undo_54 : decode cX5_undo 54 = .ok (.aload_n 1, 1) := by decide +kernel
theorem dX5_undo_55 : decode cX5_undo 55 = .ok (.invokevirtual 167, 3) := by decide +kernel
theorem dX5_undo_58 : decode cX5_undo 58 = .ok (.aload_n 0, 1) := by decide +kernel
theorem dX5_undo_59 : decode cX5_undo 59 = .ok (.getfield 27, 3) := by decide +kernel
theorem dX5_undo_62 : decode cX5_undo 62 = .ok (.ireturn, 1) := by decide +kernel
theorem dX5_at_0 : decode cX5_at 0 = .ok (.iload_n 1, 1) := by decide +kernel
theorem dX5_at_1 : decode cX5_at 1 = .ok (.invokestatic 137, 3) := by decide +kernel
theorem dX5_at_4 : decode cX5_at 4 = .ok (.iload_n 2, 1) := by decide +kernel
theorem dX5_at_5 : decode cX5_at 5 = .ok (.tableswitch 120 0 4 #[35, 47, 59, 71, 108], 35) := by decide +kernel
theorem dX5_at_40 : decode cX5_at 40 = .ok (.aload_n 0, 1) := by decide +kernel
theorem dX5_at_41 : decode cX5_at 41 = .ok (.getfield 12, 3) := by decide +kernel
theorem dX5_at_44 : decode cX5_at 44 = .ok (.getfield 99, 3) := by decide +kernel
theorem dX5_at_47 : decode cX5_at 47 = .ok (.iload_n 1, 1) := by decide +kernel
theorem dX5_at_48 : decode cX5_at 48 = .ok (.invokevirtual 177, 3) := by decide +kernel
theorem dX5_at_51 : decode cX5_at 51 = .ok (.ireturn, 1) := by decide +kernel
theorem dX5_at_52 : decode cX5_at 52 = .ok (.aload_n 0, 1) := by decide +kernel
theorem dX5_at_53 : decode cX5_at 53 = .ok (.getfield 12, 3) := by decide +kernel
theorem dX5_at_56 : decode cX5_at 56 = .ok (.getfield 99, 3) := by decide +kernel
theorem dX5_at_59 : decode cX5_at 59 = .ok (.iload_n 1, 1) := by decide +kernel
theorem dX5_at_60 : decode cX5_at 60 = .ok (.invokevirtual 180, 3) := by decide +kernel
theorem dX5_at_63 : decode cX5_at 63 = .ok (.ireturn, 1) := by decide +kernel
theorem dX5_at_64 : decode cX5_at 64 = .ok (.aload_n 0, 1) := by decide +kernel
theorem dX5_at_65 : decode cX5_at 65 = .ok (.getfield 12, 3) := by decide +kernel
theorem dX5_at_68 : decode cX5_at 68 = .ok (.getfield 140, 3) := by decide +kernel
theorem dX5_at_71 : decode cX5_at 71 = .ok (.iload_n 1, 1) := by decide +kernel
theorem dX5_at_72 : decode cX5_at 72 = .ok (.ishr, 1) := by decide +kernel
theorem dX5_at_73 : decode cX5_at 73 = .ok (.iconst 1, 1) := by decide +kernel
theorem dX5_at_74 : decode cX5_at 74 = .ok (.iand, 1) := by decide +kernel
theorem dX5_at_75 : decode cX5_at 75 = .ok (.ireturn, 1) := by decide +kernel
theorem dX5_at_76 : decode cX5_at 76 = .ok (.aload_n 0, 1) := by decide +kernel
theorem dX5_at_77 : decode cX5_at 77 = .ok (.getfield 12, 3) := by decide +kernel
theorem dX5_at_80 : decode cX5_at 80 = .ok (.getfield 153, 3) := by decide +kernel
theorem dX5_at_83 : decode cX5_at 83 = .ok (.ifCond .eq 28, 3) := by decide +kernel
theorem dX5_at_86 : decode cX5_at 86 = .ok (.aload_n 0, 1) := by decide +kernel
theorem dX5_at_87 : decode cX5_at 87 = .ok (.getfield 12, 3) := by decide +kernel
theorem dX5_at_90 : decode cX5_at 90 = .ok (.getfield 99, 3) := by decide +kernel
theorem dX5_at_93 : decode cX5_at 93 = .ok (.aload_n 0, 1) := by decide +kernel
theorem dX5_at_94 : decode cX5_at 94 = .ok (.getfield 12, 3) := by decide +kernel
theorem dX5_at_97 : decode cX5_at 97 = .ok (.getfield 146, 3) := by decide +kernel
theorem dX5_at_100 : decode cX5_at 100 = .ok (.iload_n 1, 1) := by decide +kernel
theorem dX5_at_101 : decode cX5_at 101 = .ok (.invokevirtual 183, 3) := by decide +kernel
theorem dX5_at_104 : decode cX5_at 104 = .ok (.ifCond .eq 7, 3) := by decide +kernel
theorem dX5_at_107 : decode cX5_at 107 = .ok (.iconst 1, 1) := by decide +kernel
theorem dX5_at_108 : decode cX5_at 108 = .ok (.goto 4, 3) := by decide +kernel
theorem dX5_at_111 : decode cX5_at 111 = .ok (.iconst 0, 1) := by decide +kernel
theorem dX5_at_112 : decode cX5_at 112 = .ok (.ireturn, 1) := by decide +kernel
theorem dX5_at_113 : decode cX5_at 113 = .ok (.aload_n 0, 1) := by decide +kernel
theorem dX5_at_114 : decode cX5_at 114 = .ok (.getfield 12, 3) := by decide +kernel
theorem dX5_at_117 : decode cX5_at 117 = .ok (.getfield 124, 3) := by decide +kernel
theorem dX5_at_120 : decode cX5_at 120 = .ok (.iload_n 1, 1) := by decide +kernel
theorem dX5_at_121 : decode cX5_at 121 = .ok (.invokevirtual 187, 3) := by decide +kernel
theorem dX5_at_124 : decode cX5_at 124 = .ok (.ireturn, 1) := by decide +kernel
theorem dX5_at_125 : decode cX5_at 125 = .ok (.new 66, 3) := by decide +kernel
theorem dX5_at_128 : decode cX5_at 128 = .ok (.dup, 1) := by decide +kernel
theorem dX5_at_129 : decode cX5_at 129 = .ok (.ldc 190, 2) := by decide +kernel
theorem dX5_at_131 : decode cX5_at 131 = .ok (.invokespecial 70, 3) := by decide +kernel
theorem dX5_at_134 : decode cX5_at 134 = .ok (.athrow, 1) := by decide +kernel
theorem dX5_key_0 : decode cX5_key 0 = .ok (.iload_n 1, 1) := by decide +kernel
theorem dX5_key_1 : decode cX5_key 1 = .ok (.invokestatic 116, 3) := by decide +kernel
theorem dX5_key_4 : decode cX5_key 4 = .ok (.iload_n 2, 1) := by decide +kernel
theorem dX5_key_5 : decode cX5_key 5 = .ok (.tableswitch 112 0 5 #[39, 51, 63, 73, 86, 103], 39) := by decide +kernel
theorem dX5_key_44 : decode cX5_key 44 = .ok (.aload_n 0, 1) := by decide +kernel
theorem dX5_key_45 : decode cX5_key 45 = .ok (.getfield 12, 3) := by decide +kernel
theorem dX5_key_48 : decode cX5_key 48 = .ok (.getfield 124, 3) := by decide +kernel
theorem dX5_key_51 : decode cX5_key 51 = .ok (.iload_n 1, 1) := by decide +kernel
theorem dX5_key_52 : decode cX5_key 52 = .ok (.invokevirtual 128, 3) := by decide +kernel
theorem dX5_key_55 : decode cX5_key 55 = .ok (.ireturn, 1) := by decide +kernel
theorem dX5_key_56 : decode cX5_key 56 = .ok (.aload_n 0, 1) := by decide +kernel
theorem dX5_key_57 : decode cX5_key 57 = .ok (.getfield 12, 3) := by decide +kernel
theorem dX5_key_60 : decode cX5_key 60 = .ok (.getfield 124, 3) := by decide +kernel
theorem dX5_key_63 : decode cX5_key 63 = .ok (.iload_n 1, 1) := by decide +kernel
theorem dX5_key_64 : decode cX5_key 64 = .ok (.invokevirtual 192, 3) := by decide +kernel
theorem dX5_key_67 : decode cX5_key 67 = .ok (.ireturn, 1) := by decide +kernel
theorem dX5_key_68 : decode cX5_key 68 = .ok (.aload_n 0, 1) := by decide +kernel
theorem dX5_key_69 : decode cX5_key 69 = .ok (.iload_n 1, 1) := by decide +kernel
theorem dX5_key_70 : decode cX5_key 70 = .ok (.invokevirtual 195, 3) := by decide +kernel
theorem dX5_key_73 : decode cX5_key 73 = .ok (.aload_n 0, 1) := by decide +kernel
theorem dX5_key_74 : decode cX5_key 74 = .ok (.invokevirtual 198, 3) := by decide +kernel
theorem dX5_key_77 : decode cX5_key 77 = .ok (.ireturn, 1) := by decide +kernel
theorem dX5_key_78 : decode cX5_key 78 = .ok (.aload_n 0, 1) := by decide +kernel
theorem dX5_key_79 : decode cX5_key 79 = .ok (.iload_n 1, 1) := by decide +kernel
theorem dX5_key_80 : decode cX5_key 80 = .ok (.invokevirtual 195, 3) := by decide +kernel
theorem dX5_key_83 : decode cX5_key 83 = .ok (.aload_n 0, 1) := by decide +kernel
theorem dX5_key_84 : decode cX5_key 84 = .ok (.getfield 41, 3) := by decide +kernel
theorem dX5_key_87 : decode cX5_key 87 = .ok (.invokevirtual 201, 3) := by decide +kernel
theorem dX5_key_90 : decode cX5_key 90 = .ok (.ireturn, 1) := by decide +kernel
theorem dX5_key_91 : decode cX5_key 91 = .ok (.aload_n 0, 1) := by decide +kernel
theorem dX5_key_92 : decode cX5_key 92 = .ok (.getfield 12, 3) := by decide +kernel
theorem dX5_key_95 : decode cX5_key 95 = .ok (.iload_n 1, 1) := by decide +kernel
theorem dX5_key_96 : decode cX5_key 96 = .ok (.invokevirtual 88, 3) := by decide +kernel
theorem dX5_key_99 : decode cX5_key 99 = .ok (.ifCond .eq 7, 3) := by decide +kernel
theorem dX5_key_102 : decode cX5_key 102 = .ok (.iconst 0, 1) := by decide +kernel
theorem dX5_key_103 : decode cX5_key 103 = .ok (.goto 4, 3) := by decide +kernel
theorem dX5_key_106 : decode cX5_key 106 = .ok (.iconst 1, 1) := by decide +kernel
theorem dX5_key_107 : decode cX5_key 107 = .ok (.ireturn, 1) := by decide +kernel
theorem dX5_key_108 : decode cX5_key 108 = .ok (.aload_n 0, 1) := by decide +kernel
theorem dX5_key_109 : decode cX5_key 109 = .ok (.getfield 12, 3) := by decide +kernel
theorem dX5_key_112 : decode cX5_key 112 = .ok (.iload_n 1, 1) := by decide +kernel
theorem dX5_key_113 : decode cX5_key 113 = .ok (.invokevirtual 204, 3) := by decide +kernel
theorem dX5_key_116 : decode cX5_key 116 = .ok (.ireturn, 1) := by decide +kernel
theorem dX5_key_117 : decode cX5_key 117 = .ok (.new 66, 3) := by decide +kernel
theorem dX5_key_120 : decode cX5_key 120 = .ok (.dup, 1) := by decide +kernel
theorem dX5_key_121 : decode cX5_key 121 = .ok (.ldc 207, 2) := by decide +kernel
theorem dX5_key_123 : decode cX5_key 123 = .ok (.invokespecial 70, 3) := by decide +kernel
theorem dX5_key_126 : decode cX5_key 126 = .ok (.athrow, 1) := by decide +kernel
theorem dX5_pair_0 : decode cX5_pair 0 = .ok (.iload_n 1, 1) := by decide +kernel
theorem dX5_pair_1 : decode cX5_pair 1 = .ok (.invokestatic 116, 3) := by decide +kernel
theorem dX5_pair_4 : decode cX5_pair 4 = .ok (.iload_n 2, 1) := by decide +kernel
theorem dX5_pair_5 : decode cX5_pair 5 = .ok (.invokestatic 116, 3) := by decide +kernel
theorem dX5_pair_8 : decode cX5_pair 8 = .ok (.iload_n 3, 1) := by decide +kernel
theorem dX5_pair_9 : decode cX5_pair 9 = .ok (.ifCond .lt 8, 3) := by decide +kernel
theorem dX5_pair_12 : decode cX5_pair 12 = .ok (.iload_n 3, 1) := by decide +kernel
theorem dX5_pair_13 : decode cX5_pair 13 = .ok (.iconst 4, 1) := by decide +kernel
theorem dX5_pair_14 : decode cX5_pair 14 = .ok (.if_icmp .le 13, 3) := by decide +kernel
theorem dX5_pair_17 : decode cX5_pair 17 = .ok (.new 66, 3) := by decide +kernel
theorem dX5_pair_20 : decode cX5_pair 20 = .ok (.dup, 1) := by decide +kernel
theorem dX5_pair_21 : decode cX5_pair 21 = .ok (.ldc 190, 2) := by decide +kernel
theorem dX5_pair_23 : decode cX5_pair 23 = .ok (.invokespecial 70, 3) := by decide +kernel
theorem dX5_pair_26 : decode cX5_pair 26 = .ok (.athrow, 1) := by decide +kernel
theorem dX5_pair_27 : decode cX5_pair 27 = .ok (.aload_n 0, 1) := by decide +kernel
theorem dX5_pair_28 : decode cX5_pair 28 = .ok (.iload_n 1, 1) := by decide +kernel
theorem dX5_pair_29 : decode cX5_pair 29 = .ok (.iload_n 2, 1) := by decide +kernel
theorem dX5_pair_30 : decode cX5_pair 30 = .ok (.invokevirtual 209, 3) := by decide +kernel
theorem dX5_pair_33 : decode cX5_pair 33 = .ok (.iload_n 3, 1) := by decide +kernel
theorem dX5_pair_34 : decode cX5_pair 34 = .ok (.tableswitch 62 0 3 #[30, 38, 49, 54], 30) := by decide +kernel
theorem dX5_pair_64 : decode cX5_pair 64 = .ok (.aload_n 0, 1) := by decide +kernel
theorem dX5_pair_65 : decode cX5_pair 65 = .ok (.getfield 41, 3) := by decide +kernel
theorem dX5_pair_68 : decode cX5_pair 68 = .ok (.invokevirtual 102, 3) := by decide +kernel
theorem dX5_pair_71 : decode cX5_pair 71 = .ok (.ireturn, 1) := by decide +kernel
theorem dX5_pair_72 : decode cX5_pair 72 = .ok (.aload_n 0, 1) := by decide +kernel
theorem dX5_pair_73 : decode cX5_pair 73 = .ok (.getfield 41, 3) := by decide +kernel
theorem dX5_pair_76 : decode cX5_pair 76 = .ok (.invokevirtual 102, 3) := by decide +kernel
theorem dX5_pair_79 : decode cX5_pair 79 = .ok (.invokestatic 105, 3) := by decide +kernel
theorem dX5_pair_82 : decode cX5_pair 82 = .ok (.ireturn, 1) := by decide +kernel
theorem dX5_pair_83 : decode cX5_pair 83 = .ok (.aload_n 0, 1) := by decide +kernel
theorem dX5_pair_84 : decode cX5_pair 84 = .ok (.invokevirtual 198, 3) := by decide +kernel
theorem dX5_pair_87 : decode cX5_pair 87 = .ok (.ireturn, 1) := by decide +kernel
theorem dX5_pair_88 : decode cX5_pair 88 = .ok (.aload_n 0, 1) := by decide +kernel
theorem dX5_pair_89 : decode cX5_pair 89 = .ok (.getfield 41, 3) := by decide +kernel
theorem dX5_pair_92 : decode cX5_pair 92 = .ok (.invokevirtual 201, 3) := by decide +kernel
theorem dX5_pair_95 : decode cX5_pair 95 = .ok (.ireturn, 1) := by decide +kernel
theorem dX5_pair_96 : decode cX5_pair 96 = .ok (.aload_n 0, 1) := by decide +kernel
theorem dX5_pair_97 : decode cX5_pair 97 = .ok (.getfield 41, 3) := by decide +kernel
theorem dX5_pair_100 : decode cX5_pair 100 = .ok (.invokevirtual 102, 3) := by decide +kernel
theorem dX5_pair_103 : decode cX5_pair 103 = .ok (.ifCond .ne 7, 3) := by decide +kernel
theorem dX5_pair_106 : decode cX5_pair 106 = .ok (.iconst 1, 1) := by decide +kernel
theorem dX5_pair_107 : decode cX5_pair 107 = .ok (.goto 4, 3) := by decide +kernel
theorem dX5_pair_110 : decode cX5_pair 110 = .ok (.iconst 0, 1) := by decide +kernel
theorem dX5_pair_111 : decode cX5_pair 111 = .ok (.ireturn, 1) := by decide +kernel
theorem dX5_ofWord_0 : decode cX5_ofWord 0 = .ok (.iload_n 1, 1) := by decide +kernel
theorem dX5_ofWord_1 : decode cX5_ofWord 1 = .ok (.ifCond .lt 8, 3) := by decide +kernel
theorem dX5_ofWord_4 : decode cX5_ofWord 4 = .ok (.iload_n 1, 1) := by decide +kernel
theorem dX5_ofWord_5 : decode cX5_ofWord 5 = .ok (.iconst 4, 1) := by decide +kernel
theorem dX5_ofWord_6 : decode cX5_ofWord 6 = .ok (.if_icmp .le 13, 3) := by decide +kernel
theorem dX5_ofWord_9 : decode cX5_ofWord 9 = .ok (.new 66, 3) := by decide +kernel
theorem dX5_ofWord_12 : decode cX5_ofWord 12 = .ok (.dup, 1) := by decide +kernel
theorem dX5_ofWord_13 : decode cX5_ofWord 13 = .ok (.ldc 190, 2) := by decide +kernel
theorem dX5_ofWord_15 : decode cX5_ofWord 15 = .ok (.invokespecial 70, 3) := by decide +kernel
theorem dX5_ofWord_18 : decode cX5_ofWord 18 = .ok (.athrow, 1) := by decide +kernel
theorem dX5_ofWord_19 : decode cX5_ofWord 19 = .ok (.aload_n 0, 1) := by decide +kernel
theorem dX5_ofWord_20 : decode cX5_ofWord 20 = .ok (.getfield 34, 3) := by decide +kernel
theorem dX5_ofWord_23 : decode cX5_ofWord 23 = .ok (.invokevirtual 59, 3) := by decide +kernel
theorem dX5_ofWord_26 : decode cX5_ofWord 26 = .ok (.pop, 1) := by decide +kernel
theorem dX5_ofWord_27 : decode cX5_ofWord 27 = .ok (.aload_n 0, 1) := by decide +kernel
theorem dX5_ofWord_28 : decode cX5_ofWord 28 = .ok (.getfield 34, 3) := by decide +kernel
theorem dX5_ofWord_31 : decode cX5_ofWord 31 = .ok (.getfield 63, 3) := by decide +kernel
theorem dX5_ofWord_34 : decode cX5_ofWord 34 = .ok (.ifCond .ne 13, 3) := by decide +kernel
theorem dX5_ofWord_37 : decode cX5_ofWord 37 = .ok (.new 66, 3) := by decide +kernel
theorem dX5_ofWord_40 : decode cX5_ofWord 40 = .ok (.dup, 1) := by decide +kernel
theorem dX5_ofWord_41 : decode cX5_ofWord 41 = .ok (.ldc 68, 2) := by decide +kernel
theorem dX5_ofWord_43 : decode cX5_ofWord 43 = .ok (.invokespecial 70, 3) := by decide +kernel
theorem dX5_ofWord_46 : decode cX5_ofWord 46 = .ok (.athrow, 1) := by decide +kernel
theorem dX5_ofWord_47 : decode cX5_ofWord 47 = .ok (.iload_n 1, 1) := by decide +kernel
theorem dX5_ofWord_48 : decode cX5_ofWord 48 = .ok (.ifCond .ne 17, 3) := by decide +kernel
theorem dX5_ofWord_51 : decode cX5_ofWord 51 = .ok (.aload_n 0, 1) := by decide +kernel
theorem dX5_ofWord_52 : decode cX5_ofWord 52 = .ok (.getfield 34, 3) := by decide +kernel
theorem dX5_ofWord_55 : decode cX5_ofWord 55 = .ok (.getfield 73, 3) := by decide +kernel
theorem dX5_ofWord_58 : decode cX5_ofWord 58 = .ok (.sipush 9999, 3) := by decide +kernel
theorem dX5_ofWord_61 : decode cX5_ofWord 61 = .ok (.invokestatic 213, 3) := by decide +kernel
theorem dX5_ofWord_64 : decode cX5_ofWord 64 = .ok (.ireturn, 1) := by decide +kernel
theorem dX5_ofWord_65 : decode cX5_ofWord 65 = .ok (.aload_n 0, 1) := by decide +kernel
theorem dX5_ofWord_66 : decode cX5_ofWord 66 = .ok (.getfield 34, 3) := by decide +kernel
theorem dX5_ofWord_69 : decode cX5_ofWord 69 = .ok (.getfield 73, 3) := by decide +kernel
theorem dX5_ofWord_72 : decode cX5_ofWord 72 = .ok (.sipush 500, 3) := by decide +kernel
theorem dX5_ofWord_75 : decode cX5_ofWord 75 = .ok (.if_icmp .le 5, 3) := by decide +kernel
theorem dX5_ofWord_78 : decode cX5_ofWord 78 = .ok (.iconst (-1), 1) := by decide +kernel
theorem dX5_ofWord_79 : decode cX5_ofWord 79 = .ok (.ireturn, 1) := by decide +kernel
theorem dX5_ofWord_80 : decode cX5_ofWord 80 = .ok (.aload_n 0, 1) := by decide +kernel
theorem dX5_ofWord_81 : decode cX5_ofWord 81 = .ok (.iload_n 1, 1) := by decide +kernel
theorem dX5_ofWord_82 : decode cX5_ofWord 82 = .ok (.invokevirtual 219, 3) := by decide +kernel
theorem dX5_ofWord_85 : decode cX5_ofWord 85 = .ok (.ireturn, 1) := by decide +kernel
theorem dX5_count_0 : decode cX5_count 0 = .ok (.iload_n 1, 1) := by decide +kernel
theorem dX5_count_1 : decode cX5_count 1 = .ok (.tableswitch 164 0 9 #[55, 63, 76, 84, 101, 117, 132, 143, 151, 159], 55) := by decide +kernel
theorem dX5_count_56 : decode cX5_count 56 = .ok (.aload_n 0, 1) := by decide +kernel
theorem dX5_count_57 : decode cX5_count 57 = .ok (.getfield 12, 3) := by decide +kernel
theorem dX5_count_60 : decode cX5_count 60 = .ok (.getfield 170, 3) := by decide +kernel
theorem dX5_count_63 : decode cX5_count 63 = .ok (.ireturn, 1) := by decide +kernel
theorem dX5_count_64 : decode cX5_count 64 = .ok (.aload_n 0, 1) := by decide +kernel
theorem dX5_count_65 : decode cX5_count 65 = .ok (.getfield 12, 3) := by decide +kernel
theorem dX5_count_68 : decode cX5_count 68 = .ok (.getfield 99, 3) := by decide +kernel
theorem dX5_count_71 : decode cX5_count 71 = .ok (.invokevirtual 156, 3) := by decide +kernel
theorem dX5_count_74 : decode cX5_count 74 = .ok (.iconst 5, 1) := by decide +kernel
theorem dX5_count_75 : decode cX5_count 75 = .ok (.irem, 1) := by decide +kernel
theorem dX5_count_76 : decode cX5_count 76 = .ok (.ireturn, 1) := by decide +kernel
theorem dX5_count_77 : decode cX5_count 77 = .ok (.aload_n 0, 1) := by decide +kernel
theorem dX5_count_78 : decode cX5_count 78 = .ok (.getfield 12, 3) := by decide +kernel
theorem dX5_count_81 : decode cX5_count 81 = .ok (.getfield 113, 3) := by decide +kernel
theorem dX5_count_84 : decode cX5_count 84 = .ok (.ireturn, 1) := by decide +kernel
theorem dX5_count_85 : decode cX5_count 85 = .ok (.bipush 6, 2) := by decide +kernel
theorem dX5_count_87 : decode cX5_count 87 = .ok (.aload_n 0, 1) := by decide +kernel
theorem dX5_count_88 : decode cX5_count 88 = .ok (.getfield 12, 3) := by decide +kernel
theorem dX5_count_91 : decode cX5_count 91 = .ok (.getfield 99, 3) := by decide +kernel
theorem dX5_count_94 : decode cX5_count 94 = .ok (.invokevirtual 102, 3) := by decide +kernel
theorem dX5_count_97 : decode cX5_count 97 = .ok (.invokestatic 105, 3) := by decide +kernel
theorem dX5_count_100 : decode cX5_count 100 = .ok (.isub, 1) := by decide +kernel
theorem dX5_count_101 : decode cX5_count 101 = .ok (.ireturn, 1) := by decide +kernel
theorem dX5_count_102 : decode cX5_count 102 = .ok (.aload_n 0, 1) := by decide +kernel
theorem dX5_count_103 : decode cX5_count 103 = .ok (.getfield 12, 3) := by decide +kernel
theorem dX5_count_106 : decode cX5_count 106 = .ok (.invokevirtual 222, 3) := by decide +kernel
theorem dX5_count_109 : decode cX5_count 109 = .ok (.ifCond .eq 7, 3) := by decide +kernel
theorem dX5_count_112 : decode cX5_count 112 = .ok (.iconst 1, 1) := by decide +kernel
theorem dX5_count_113 : decode cX5_count 113 = .ok (.goto 4, 3) := by decide +kernel
theorem dX5_count_116 : decode cX5_count 116 = .ok (.iconst 0, 1) := by decide +kernel
theorem dX5_count_117 : decode cX5_count 117 = .ok (.ireturn, 1) := by decide +kernel
theorem dX5_count_118 : decode cX5_count 118 = .ok (.aload_n 0, 1) := by decide +kernel
theorem dX5_count_119 : decode cX5_count 119 = .ok (.getfield 12, 3) := by decide +kernel
theorem dX5_count_122 : decode cX5_count 122 = .ok (.aload_n 0, 1) := by decide +kernel
theorem dX5_count_123 : decode cX5_count 123 = .ok (.getfield 12, 3) := by decide +kernel
theorem dX5_count_126 : decode cX5_count 126 = .ok (.getfield 99, 3) := by decide +kernel
theorem dX5_count_129 : decode cX5_count 129 = .ok (.invokevirtual 226, 3) := by decide +kernel
theorem dX5_count_132 : decode cX5_count 132 = .ok (.ireturn, 1) := by decide +kernel
theorem dX5_count_133 : decode cX5_count 133 = .ok (.aload_n 0, 1) := by decide +kernel
theorem dX5_count_134 : decode cX5_count 134 = .ok (.getfield 12, 3) := by decide +kernel
theorem dX5_count_137 : decode cX5_count 137 = .ok (.getfield 140, 3) := by decide +kernel
theorem dX5_count_140 : decode cX5_count 140 = .ok (.invokestatic 105, 3) := by decide +kernel
theorem dX5_count_143 : decode cX5_count 143 = .ok (.ireturn, 1) := by decide +kernel
theorem dX5_count_144 : decode cX5_count 144 = .ok (.aload_n 0, 1) := by decide +kernel
theorem dX5_count_145 : decode cX5_count 145 = .ok (.getfield 12, 3) := by decide +kernel
theorem dX5_count_148 : decode cX5_count 148 = .ok (.invokevirtual 143, 3) := by decide +kernel
theorem dX5_count_151 : decode cX5_count 151 = .ok (.ireturn, 1) := by decide +kernel
theorem dX5_count_152 : decode cX5_count 152 = .ok (.aload_n 0, 1) := by decide +kernel
theorem dX5_count_153 : decode cX5_count 153 = .ok (.getfield 12, 3) := by decide +kernel
theorem dX5_count_156 : decode cX5_count 156 = .ok (.getfield 230, 3) := by decide +kernel
theorem dX5_count_159 : decode cX5_count 159 = .ok (.ireturn, 1) := by decide +kernel
theorem dX5_count_160 : decode cX5_count 160 = .ok (.aload_n 0, 1) := by decide +kernel
theorem dX5_count_161 : decode cX5_count 161 = .ok (.getfield 27, 3) := by decide +kernel
theorem dX5_count_164 : decode cX5_count 164 = .ok (.ireturn, 1) := by decide +kernel
theorem dX5_count_165 : decode cX5_count 165 = .ok (.new 66, 3) := by decide +kernel
theorem dX5_count_168 : decode cX5_count 168 = .ok (.dup, 1) := by decide +kernel
theorem dX5_count_169 : decode cX5_count 169 = .ok (.ldc 233, 2) := by decide +kernel
theorem dX5_count_171 : decode cX5_count 171 = .ok (.invokespecial 70, 3) := by decide +kernel
theorem dX5_count_174 : decode cX5_count 174 = .ok (.athrow, 1) := by decide +kernel
theorem dX5_openIn_0 : decode cX5_openIn 0 = .ok (.iload_n 1, 1) := by decide +kernel
theorem dX5_openIn_1 : decode cX5_openIn 1 = .ok (.ifCond .lt 8, 3) := by decide +kernel
theorem dX5_openIn_4 : decode cX5_openIn 4 = .ok (.iload_n 1, 1) := by decide +kernel
theorem dX5_openIn_5 : decode cX5_openIn 5 = .ok (.iconst 1, 1) := by decide +kernel
theorem dX5_openIn_6 : decode cX5_openIn 6 = .ok (.if_icmp .le 13, 3) := by decide +kernel
theorem dX5_openIn_9 : decode cX5_openIn 9 = .ok (.new 66, 3) := by decide +kernel
theorem dX5_openIn_12 : decode cX5_openIn 12 = .ok (.dup, 1) := by decide +kernel
theorem dX5_openIn_13 : decode cX5_openIn 13 = .ok (.ldc 235, 2) := by decide +kernel
theorem dX5_openIn_15 : decode cX5_openIn 15 = .ok (.invokespecial 70, 3) := by decide +kernel
theorem dX5_openIn_18 : decode cX5_openIn 18 = .ok (.athrow, 1) := by decide +kernel
theorem dX5_openIn_19 : decode cX5_openIn 19 = .ok (.aload_n 0, 1) := by decide +kernel
theorem dX5_openIn_20 : decode cX5_openIn 20 = .ok (.getfield 51, 3) := by decide +kernel
theorem dX5_openIn_23 : decode cX5_openIn 23 = .ok (.aload_n 0, 1) := by decide +kernel
theorem dX5_openIn_24 : decode cX5_openIn 24 = .ok (.getfield 12, 3) := by decide +kernel
theorem dX5_openIn_27 : decode cX5_openIn 27 = .ok (.invokevirtual 237, 3) := by decide +kernel
theorem dX5_openIn_30 : decode cX5_openIn 30 = .ok (.iload_n 1, 1) := by decide +kernel
theorem dX5_openIn_31 : decode cX5_openIn 31 = .ok (.ifCond .ne 13, 3) := by decide +kernel
theorem dX5_openIn_34 : decode cX5_openIn 34 = .ok (.aload_n 0, 1) := by decide +kernel
theorem dX5_openIn_35 : decode cX5_openIn 35 = .ok (.getfield 51, 3) := by decide +kernel
theorem dX5_openIn_38 : decode cX5_openIn 38 = .ok (.getfield 240, 3) := by decide +kernel
theorem dX5_openIn_41 : decode cX5_openIn 41 = .ok (.goto 10, 3) := by decide +kernel
theorem dX5_openIn_44 : decode cX5_openIn 44 = .ok (.aload_n 0, 1) := by decide +kernel
theorem dX5_openIn_45 : decode cX5_openIn 45 = .ok (.getfield 51, 3) := by decide +kernel
theorem dX5_openIn_48 : decode cX5_openIn 48 = .ok (.getfield 243, 3) := by decide +kernel
theorem dX5_openIn_51 : decode cX5_openIn 51 = .ok (.ireturn, 1) := by decide +kernel
theorem dX5_ifTurned_0 : decode cX5_ifTurned 0 = .ok (.iload_n 1, 1) := by decide +kernel
theorem dX5_ifTurned_1 : decode cX5_ifTurned 1 = .ok (.invokestatic 116, 3) := by decide +kernel
theorem dX5_ifTurned_4 : decode cX5_ifTurned 4 = .ok (.iload_n 2, 1) := by decide +kernel
theorem dX5_ifTurned_5 : decode cX5_ifTurned 5 = .ok (.ifCond .lt 8, 3) := by decide +kernel
theorem dX5_ifTurned_8 : decode cX5_ifTurned 8 = .ok (.iload_n 2, 1) := by decide +kernel
theorem dX5_ifTurned_9 : decode cX5_ifTurned 9 = .ok (.iconst 1, 1) := by decide +kernel
theorem dX5_ifTurned_10 : decode cX5_ifTurned 10 = .ok (.if_icmp .le 13, 3) := by decide +kernel
theorem dX5_ifTurned_13 : decode cX5_ifTurned 13 = .ok (.new 66, 3) := by decide +kernel
theorem dX5_ifTurned_16 : decode cX5_ifTurned 16 = .ok (.dup, 1) := by decide +kernel
theorem dX5_ifTurned_17 : decode cX5_ifTurned 17 = .ok (.ldc 246, 2) := by decide +kernel
theorem dX5_ifTurned_19 : decode cX5_ifTurned 19 = .ok (.invokespecial 70, 3) := by decide +kernel
theorem dX5_ifTurned_22 : decode cX5_ifTurned 22 = .ok (.athrow, 1) := by decide +kernel
theorem dX5_ifTurned_23 : decode cX5_ifTurned 23 = .ok (.aload_n 0, 1) := by decide +kernel
theorem dX5_ifTurned_24 : decode cX5_ifTurned 24 = .ok (.getfield 45, 3) := by decide +kernel
theorem dX5_ifTurned_27 : decode cX5_ifTurned 27 = .ok (.aload_n 0, 1) := by decide +kernel
theorem dX5_ifTurned_28 : decode cX5_ifTurned 28 = .ok (.getfield 12, 3) := by decide +kernel
theorem dX5_ifTurned_31 : decode cX5_ifTurned 31 = .ok (.getfield 99, 3) := by decide +kernel
theorem dX5_ifTurned_34 : decode cX5_ifTurned 34 = .ok (.invokevirtual 149, 3) := by decide +kernel
theorem dX5_ifTurned_37 : decode cX5_ifTurned 37 = .ok (.aload_n 0, 1) := by decide +kernel
theorem dX5_ifTurned_38 : decode cX5_ifTurned 38 = .ok (.getfield 12, 3) := by decide +kernel
theorem dX5_ifTurned_41 : decode cX5_ifTurned 41 = .ok (.getfield 124, 3) := by decide +kernel
theorem dX5_ifTurned_44 : decode cX5_ifTurned 44 = .ok (.aload_n 0, 1) := by decide +kernel
theorem dX5_ifTurned_45 : decode cX5_ifTurned 45 = .ok (.getfield 45, 3) := by decide +kernel
theorem dX5_ifTurned_48 : decode cX5_ifTurned 48 = .ok (.iload_n 1, 1) := by decide +kernel
theorem dX5_ifTurned_49 : decode cX5_ifTurned 49 = .ok (.iload_n 2, 1) := by decide +kernel
theorem dX5_ifTurned_50 : decode cX5_ifTurned 50 = .ok (.iconst 1, 1) := by decide +kernel
theorem dX5_ifTurned_51 : decode cX5_ifTurned 51 = .ok (.if_icmp .ne 7, 3) := by decide +kernel
theorem dX5_ifTurned_54 : decode cX5_ifTurned 54 = .ok (.iconst 1, 1) := by decide +kernel
theorem dX5_ifTurned_55 : decode cX5_ifTurned 55 = .ok (.goto 4, 3) := by decide +kernel
theorem dX5_ifTurned_58 : decode cX5_ifTurned 58 = .ok (.iconst 0, 1) := by decide +kernel
theorem dX5_ifTurned_59 : decode cX5_ifTurned 59 = .ok (.invokestatic 248, 3) := by decide +kernel
theorem dX5_ifTurned_62 : decode cX5_ifTurned 62 = .ok (.invokevirtual 251, 3) := by decide +kernel
theorem dX5_ifTurned_65 : decode cX5_ifTurned 65 = .ok (.aload_n 0, 1) := by decide +kernel
theorem dX5_ifTurned_66 : decode cX5_ifTurned 66 = .ok (.getfield 12, 3) := by decide +kernel
theorem dX5_ifTurned_69 : decode cX5_ifTurned 69 = .ok (.aload_n 0, 1) := by decide +kernel
theorem dX5_ifTurned_70 : decode cX5_ifTurned 70 = .ok (.getfield 45, 3) := by decide +kernel
theorem dX5_ifTurned_73 : decode cX5_ifTurned 73 = .ok (.invokevirtual 226, 3) := by decide +kernel
theorem dX5_ifTurned_76 : decode cX5_ifTurned 76 = .ok (.ireturn, 1) := by decide +kernel
theorem dX5_closest_0 : decode cX5_closest 0 = .ok (.iconst (-1), 1) := by decide +kernel
theorem dX5_closest_1 : decode cX5_closest 1 = .ok (.istore_n 1, 1) := by decide +kernel
theorem dX5_closest_2 : decode cX5_closest 2 = .ok (.bipush 7, 2) := by decide +kernel
theorem dX5_closest_4 : decode cX5_closest 4 = .ok (.istore_n 2, 1) := by decide +kernel
theorem dX5_closest_5 : decode cX5_closest 5 = .ok (.iconst 0, 1) := by decide +kernel
theorem dX5_closest_6 : decode cX5_closest 6 = .ok (.istore_n 3, 1) := by decide +kernel
theorem dX5_closest_7 : decode cX5_closest 7 = .ok (.iload_n 3, 1) := by decide +kernel
theorem dX5_closest_8 : decode cX5_closest 8 = .ok (.iconst 5, 1) := by decide +kernel
theorem dX5_closest_9 : decode cX5_closest 9 = .ok (.if_icmp .ge 61, 3) := by decide +kernel
theorem dX5_closest_12 : decode cX5_closest 12 = .ok (.iload_n 3, 1) := by decide +kernel
theorem dX5_closest_13 : decode cX5_closest 13 = .ok (.iconst 1, 1) := by decide +kernel
theorem dX5_closest_14 : decode cX5_closest 14 = .ok (.iadd, 1) := by decide +kernel
theorem dX5_closest_15 : decode cX5_closest 15 = .ok (.istore 4, 2) := by decide +kernel
theorem dX5_closest_17 : decode cX5_closest 17 = .ok (.iload 4, 2) := by decide +kernel
theorem dX5_closest_19 : decode cX5_closest 19 = .ok (.iconst 5, 1) := by decide +kernel
theorem dX5_closest_20 : decode cX5_closest 20 = .ok (.if_icmp .ge 44, 3) := by decide +kernel
theorem dX5_closest_23 : decode cX5_closest 23 = .ok (.aload_n 0, 1) := by decide +kernel
theorem dX5_closest_24 : decode cX5_closest 24 = .ok (.iload_n 3, 1) := by decide +kernel
theorem dX5_closest_25 : decode cX5_closest 25 = .ok (.iload 4, 2) := by decide +kernel
theorem dX5_closest_27 : decode cX5_closest 27 = .ok (.invokevirtual 209, 3) := by decide +kernel
theorem dX5_closest_30 : decode cX5_closest 30 = .ok (.aload_n 0, 1) := by decide +kernel
theorem dX5_closest_31 : decode cX5_closest 31 = .ok (.getfield 41, 3) := by decide +kernel
theorem dX5_closest_34 : decode cX5_closest 34 = .ok (.invokevirtual 102, 3) := by decide +kernel
theorem dX5_closest_37 : decode cX5_closest 37 = .ok (.invokestatic 105, 3) := by decide +kernel
theorem dX5_closest_40 : decode cX5_closest 40 = .ok (.istore 5, 2) := by decide +kernel
theorem dX5_closest_42 : decode cX5_closest 42 = .ok (.iload 5, 2) := by decide +kernel
theorem dX5_closest_44 : decode cX5_closest 44 = .ok (.iload_n 2, 1) := by decide +kernel
theorem dX5_closest_45 : decode cX5_closest 45 = .ok (.if_icmp .ge 13, 3) := by decide +kernel
theorem dX5_closest_48 : decode cX5_closest 48 = .ok (.iload 5, 2) := by decide +kernel
theorem dX5_closest_50 : decode cX5_closest 50 = .ok (.istore_n 2, 1) := by decide +kernel
theorem dX5_closest_51 : decode cX5_closest 51 = .ok (.iconst 5, 1) := by decide +kernel
theorem dX5_closest_52 : decode cX5_closest 52 = .ok (.iload_n 3, 1) := by decide +kernel
theorem dX5_closest_53 : decode cX5_closest 53 = .ok (.imul, 1) := by decide +kernel
theorem dX5_closest_54 : decode cX5_closest 54 = .ok (.iload 4, 2) := by decide +kernel
theorem dX5_closest_56 : decode cX5_closest 56 = .ok (.iadd, 1) := by decide +kernel
theorem dX5_closest_57 : decode cX5_closest 57 = .ok (.istore_n 1, 1) := by decide +kernel
theorem dX5_closest_58 : decode cX5_closest 58 = .ok (.iinc 4 1, 3) := by decide +kernel
theorem dX5_closest_61 : decode cX5_closest 61 = .ok (.goto (-44), 3) := by decide +kernel
theorem dX5_closest_64 : decode cX5_closest 64 = .ok (.iinc 3 1, 3) := by decide +kernel
theorem dX5_closest_67 : decode cX5_closest 67 = .ok (.goto (-60), 3) := by decide +kernel
theorem dX5_closest_70 : decode cX5_closest 70 = .ok (.iload_n 1, 1) := by decide +kernel
theorem dX5_closest_71 : decode cX5_closest 71 = .ok (.ireturn, 1) := by decide +kernel
theorem dX5_openShare_0 : decode cX5_openShare 0 = .ok (.aload_n 0, 1) := by decide +kernel
theorem dX5_openShare_1 : decode cX5_openShare 1 = .ok (.getfield 12, 3) := by decide +kernel
theorem dX5_openShare_4 : decode cX5_openShare 4 = .ok (.aload_n 0, 1) := by decide +kernel
theorem dX5_openShare_5 : decode cX5_openShare 5 = .ok (.getfield 12, 3) := by decide +kernel
theorem dX5_openShare_8 : decode cX5_openShare 8 = .ok (.getfield 99, 3) := by decide +kernel
theorem dX5_openShare_11 : decode cX5_openShare 11 = .ok (.invokevirtual 226, 3) := by decide +kernel
theorem dX5_openShare_14 : decode cX5_openShare 14 = .ok (.i2d, 1) := by decide +kernel
theorem dX5_openShare_15 : decode cX5_openShare 15 = .ok (.ldc2_w 255, 3) := by decide +kernel
theorem dX5_openShare_18 : decode cX5_openShare 18 = .ok (.ddiv, 1) := by decide +kernel
theorem dX5_openShare_19 : decode cX5_openShare 19 = .ok (.dreturn, 1) := by decide +kernel
theorem dX5_meanNotch_0 : decode cX5_meanNotch 0 = .ok (.aload_n 0, 1) := by decide +kernel
theorem dX5_meanNotch_1 : decode cX5_meanNotch 1 = .ok (.getfield 12, 3) := by decide +kernel
theorem dX5_meanNotch_4 : decode cX5_meanNotch 4 = .ok (.getfield 99, 3) := by decide +kernel
theorem dX5_meanNotch_7 : decode cX5_meanNotch 7 = .ok (.invokevirtual 156, 3) := by decide +kernel
theorem dX5_meanNotch_10 : decode cX5_meanNotch 10 = .ok (.i2f, 1) := by decide +kernel
theorem dX5_meanNotch_11 : decode cX5_meanNotch 11 = .ok (.ldc_w 257, 3) := by decide +kernel
theorem dX5_meanNotch_14 : decode cX5_meanNotch 14 = .ok (.fdiv, 1) := by decide +kernel
theorem dX5_meanNotch_15 : decode cX5_meanNotch 15 = .ok (.freturn, 1) := by decide +kernel
theorem dX5_digest_0 : decode cX5_digest 0 = .ok (.ldc2_w 258, 3) := by decide +kernel
theorem dX5_digest_3 : decode cX5_digest 3 = .ok (.lstore_n 1, 1) := by decide +kernel
theorem dX5_digest_4 : decode cX5_digest 4 = .ok (.iconst 0, 1) := by decide +kernel
theorem dX5_digest_5 : decode cX5_digest 5 = .ok (.istore_n 3, 1) := by decide +kernel
theorem dX5_digest_6 : decode cX5_digest 6 = .ok (.iload_n 3, 1) := by decide +kernel
theorem dX5_digest_7 : decode cX5_digest 7 = .ok (.bipush 9, 2) := by decide +kernel
theorem dX5_digest_9 : decode cX5_digest 9 = .ok (.if_icmp .gt 20, 3) := by decide +kernel
theorem dX5_digest_12 : decode cX5_digest 12 = .ok (.lload_n 1, 1) := by decide +kernel
theorem dX5_digest_13 : decode cX5_digest 13 = .ok (.aload_n 0, 1) := by decide +kernel
theorem dX5_digest_14 : decode cX5_digest 14 = .ok (.iload_n 3, 1) := by decide +kernel
theorem dX5_digest_15 : decode cX5_digest 15 = .ok (.invokevirtual 260, 3) := by decide +kernel
theorem dX5_digest_18 : decode cX5_digest 18 = .ok (.i2l, 1) := by decide +kernel
theorem dX5_digest_19 : decode cX5_digest 19 = .ok (.invokestatic 263, 3) := by decide +kernel
theorem dX5_digest_22 : decode cX5_digest 22 = .ok (.lstore_n 1, 1) := by decide +kernel
theorem dX5_digest_23 : decode cX5_digest 23 = .ok (.iinc 3 1, 3) := by decide +kernel
theorem dX5_digest_26 : decode cX5_digest 26 = .ok (.goto (-20), 3) := by decide +kernel
theorem dX5_digest_29 : decode cX5_digest 29 = .ok (.aload_n 0, 1) := by decide +kernel
theorem dX5_digest_30 : decode cX5_digest 30 = .ok (.lload_n 1, 1) := by decide +kernel
theorem dX5_digest_31 : decode cX5_digest 31 = .ok (.invokevirtual 267, 3) := by decide +kernel
theorem dX5_digest_34 : decode cX5_digest 34 = .ok (.lstore_n 1, 1) := by decide +kernel
theorem dX5_digest_35 : decode cX5_digest 35 = .ok (.aload_n 0, 1) := by decide +kernel
theorem dX5_digest_36 : decode cX5_digest 36 = .ok (.lload_n 1, 1) := by decide +kernel
theorem dX5_digest_37 : decode cX5_digest 37 = .ok (.invokevirtual 271, 3) := by decide +kernel
theorem dX5_digest_40 : decode cX5_digest 40 = .ok (.lstore_n 1, 1) := by decide +kernel
theorem dX5_digest_41 : decode cX5_digest 41 = .ok (.aload_n 0, 1) := by decide +kernel
theorem dX5_digest_42 : decode cX5_digest 42 = .ok (.lload_n 1, 1) := by decide +kernel
theorem dX5_digest_43 : decode cX5_digest 43 = .ok (.invokevirtual 274, 3) := by decide +kernel
theorem dX5_digest_46 : decode cX5_digest 46 = .ok (.lstore_n 1, 1) := by decide +kernel
theorem dX5_digest_47 : decode cX5_digest 47 = .ok (.lload_n 1, 1) := by decide +kernel
theorem dX5_digest_48 : decode cX5_digest 48 = .ok (.aload_n 0, 1) := by decide +kernel
theorem dX5_digest_49 : decode cX5_digest 49 = .ok (.iconst 0, 1) := by decide +kernel
theorem dX5_digest_50 : decode cX5_digest 50 = .ok (.invokevirtual 277, 3) := by decide +kernel
theorem dX5_digest_53 : decode cX5_digest 53 = .ok (.i2l, 1) := by decide +kernel
theorem dX5_digest_54 : decode cX5_digest 54 = .ok (.invokestatic 263, 3) := by decide +kernel
theorem dX5_digest_57 : decode cX5_digest 57 = .ok (.lstore_n 1, 1) := by decide +kernel
theorem dX5_digest_58 : decode cX5_digest 58 = .ok (.lload_n 1, 1) := by decide +kernel
theorem dX5_digest_59 : decode cX5_digest 59 = .ok (.aload_n 0, 1) := by decide +kernel
theorem dX5_digest_60 : decode cX5_digest 60 = .ok (.iconst 1, 1) := by decide +kernel
theorem dX5_digest_61 : decode cX5_digest 61 = .ok (.invokevirtual 277, 3) := by decide +kernel
theorem dX5_digest_64 : decode cX5_digest 64 = .ok (.i2l, 1) := by decide +kernel
theorem dX5_digest_65 : decode cX5_digest 65 = .ok (.invokestatic 263, 3) := by decide +kernel
theorem dX5_digest_68 : decode cX5_digest 68 = .ok (.lstore_n 1, 1) := by decide +kernel
theorem dX5_digest_69 : decode cX5_digest 69 = .ok (.lload_n 1, 1) := by decide +kernel
theorem dX5_digest_70 : decode cX5_digest 70 = .ok (.aload_n 0, 1) := by decide +kernel
theorem dX5_digest_71 : decode cX5_digest 71 = .ok (.invokevirtual 280, 3) := by decide +kernel
theorem dX5_digest_74 : decode cX5_digest 74 = .ok (.i2l, 1) := by decide +kernel
theorem dX5_digest_75 : decode cX5_digest 75 = .ok (.invokestatic 263, 3) := by decide +kernel
theorem dX5_digest_78 : decode cX5_digest 78 = .ok (.lstore_n 1, 1) := by decide +kernel
theorem dX5_digest_79 : decode cX5_digest 79 = .ok (.lload_n 1, 1) := by decide +kernel
theorem dX5_digest_80 : decode cX5_digest 80 = .ok (.aload_n 0, 1) := by decide +kernel
theorem dX5_digest_81 : decode cX5_digest 81 = .ok (.invokevirtual 283, 3) := by decide +kernel
theorem dX5_digest_84 : decode cX5_digest 84 = .ok (.invokestatic 287, 3) := by decide +kernel
theorem dX5_digest_87 : decode cX5_digest 87 = .ok (.invokestatic 263, 3) := by decide +kernel
theorem dX5_digest_90 : decode cX5_digest 90 = .ok (.lstore_n 1, 1) := by decide +kernel
theorem dX5_digest_91 : decode cX5_digest 91 = .ok (.lload_n 1, 1) := by decide +kernel
theorem dX5_digest_92 : decode cX5_digest 92 = .ok (.aload_n 0, 1) := by decide +kernel
theorem dX5_digest_93 : decode cX5_digest 93 = .ok (.invokevirtual 291, 3) := by decide +kernel
theorem dX5_digest_96 : decode cX5_digest 96 = .ok (.invokestatic 295, 3) := by decide +kernel
theorem dX5_digest_99 : decode cX5_digest 99 = .ok (.i2l, 1) := by decide +kernel
theorem dX5_digest_100 : decode cX5_digest 100 = .ok (.invokestatic 263, 3) := by decide +kernel
theorem dX5_digest_103 : decode cX5_digest 103 = .ok (.lstore_n 1, 1) := by decide +kernel
theorem dX5_digest_104 : decode cX5_digest 104 = .ok (.lload_n 1, 1) := by decide +kernel
theorem dX5_digest_105 : decode cX5_digest 105 = .ok (.aload_n 0, 1) := by decide +kernel
theorem dX5_digest_106 : decode cX5_digest 106 = .ok (.getfield 19, 3) := by decide +kernel
theorem dX5_digest_109 : decode cX5_digest 109 = .ok (.ifCond .eq 7, 3) := by decide +kernel
theorem dX5_digest_112 : decode cX5_digest 112 = .ok (.lconst 1, 1) := by decide +kernel
theorem dX5_digest_113 : decode cX5_digest 113 = .ok (.goto 4, 3) := by decide +kernel
theorem dX5_digest_116 : decode cX5_digest 116 = .ok (.lconst 0, 1) := by decide +kernel
theorem dX5_digest_117 : decode cX5_digest 117 = .ok (.invokestatic 263, 3) := by decide +kernel
theorem dX5_digest_120 : decode cX5_digest 120 = .ok (.lstore_n 1, 1) := by decide +kernel
theorem dX5_digest_121 : decode cX5_digest 121 = .ok (.aload_n 0, 1) := by decide +kernel
theorem dX5_digest_122 : decode cX5_digest 122 = .ok (.lload_n 1, 1) := by decide +kernel
theorem dX5_digest_123 : decode cX5_digest 123 = .ok (.invokevirtual 299, 3) := by decide +kernel
theorem dX5_digest_126 : decode cX5_digest 126 = .ok (.lreturn, 1) := by decide +kernel
theorem dX5_requireKey_0 : decode cX5_requireKey 0 = .ok (.iload_n 0, 1) := by decide +kernel
theorem dX5_requireKey_1 : decode cX5_requireKey 1 = .ok (.ifCond .lt 8, 3) := by decide +kernel
theorem dX5_requireKey_4 : decode cX5_requireKey 4 = .ok (.iload_n 0, 1) := by decide +kernel
theorem dX5_requireKey_5 : decode cX5_requireKey 5 = .ok (.iconst 5, 1) := by decide +kernel
theorem dX5_requireKey_6 : decode cX5_requireKey 6 = .ok (.if_icmp .lt 14, 3) := by decide +kernel
theorem dX5_requireKey_9 : decode cX5_requireKey 9 = .ok (.new 302, 3) := by decide +kernel
theorem dX5_requireKey_12 : decode cX5_requireKey 12 = .ok (.dup, 1) := by decide +kernel
theorem dX5_requireKey_13 : decode cX5_requireKey 13 = .ok (.ldc_w 304, 3) := by decide +kernel
theorem dX5_requireKey_16 : decode cX5_requireKey 16 = .ok (.invokespecial 306, 3) := by decide +kernel
theorem dX5_requireKey_19 : decode cX5_requireKey 19 = .ok (.athrow, 1) := by decide +kernel
theorem dX5_requireKey_20 : decode cX5_requireKey 20 = .ok (.return_, 1) := by decide +kernel
theorem dX5_requirePosition_0 : decode cX5_requirePosition 0 = .ok (.iload_n 0, 1) := by decide +kernel
theorem dX5_requirePosition_1 : decode cX5_requirePosition 1 = .ok (.ifCond .lt 9, 3) := by decide +kernel
theorem dX5_requirePosition_4 : decode cX5_requirePosition 4 = .ok (.iload_n 0, 1) := by decide +kernel
theorem dX5_requirePosition_5 : decode cX5_requirePosition 5 = .ok (.bipush 6, 2) := by decide +kernel
theorem dX5_requirePosition_7 : decode cX5_requirePosition 7 = .ok (.if_icmp .lt 14, 3) := by decide +kernel
theorem dX5_requirePosition_10 : decode cX5_requirePosition 10 = .ok (.new 302, 3) := by decide +kernel
theorem dX5_requirePosition_13 : decode cX5_requirePosition 13 = .ok (.dup, 1) := by decide +kernel
theorem dX5_requirePosition_14 : decode cX5_requirePosition 14 = .ok (.ldc_w 307, 3) := by decide +kernel
theorem dX5_requirePosition_17 : decode cX5_requirePosition 17 = .ok (.invokespecial 306, 3) := by decide +kernel
theorem dX5_requirePosition_20 : decode cX5_requirePosition 20 = .ok (.athrow, 1) := by decide +kernel
theorem dX5_requirePosition_21 : decode cX5_requirePosition 21 = .ok (.return_, 1) := by decide +kernel
theorem dX5_isKeyMask_0 : decode cX5_isKeyMask 0 = .ok (.iload_n 0, 1) := by decide +kernel
theorem dX5_isKeyMask_1 : decode cX5_isKeyMask 1 = .ok (.ifCond .lt 21, 3) := by decide +kernel
theorem dX5_isKeyMask_4 : decode cX5_isKeyMask 4 = .ok (.iload_n 0, 1) := by decide +kernel
theorem dX5_isKeyMask_5 : decode cX5_isKeyMask 5 = .ok (.bipush 64, 2) := by decide +kernel
theorem dX5_isKeyMask_7 : decode cX5_isKeyMask 7 = .ok (.if_icmp .ge 15, 3) := by decide +kernel
theorem dX5_isKeyMask_10 : decode cX5_isKeyMask 10 = .ok (.iload_n 0, 1) := by decide +kernel
theorem dX5_isKeyMask_11 : decode cX5_isKeyMask 11 = .ok (.invokestatic 105, 3) := by decide +kernel
theorem dX5_isKeyMask_14 : decode cX5_isKeyMask 14 = .ok (.iconst 2, 1) := by decide +kernel
theorem dX5_isKeyMask_15 : decode cX5_isKeyMask 15 = .ok (.if_icmp .lt 7, 3) := by decide +kernel
theorem dX5_isKeyMask_18 : decode cX5_isKeyMask 18 = .ok (.iconst 1, 1) := by decide +kernel
theorem dX5_isKeyMask_19 : decode cX5_isKeyMask 19 = .ok (.goto 4, 3) := by decide +kernel
theorem dX5_isKeyMask_22 : decode cX5_isKeyMask 22 = .ok (.iconst 0, 1) := by decide +kernel
theorem dX5_isKeyMask_23 : decode cX5_isKeyMask 23 = .ok (.ireturn, 1) := by decide +kernel
theorem dX5_turnOnce_0 : decode cX5_turnOnce 0 = .ok (.iload_n 1, 1) := by decide +kernel
theorem dX5_turnOnce_1 : decode cX5_turnOnce 1 = .ok (.invokestatic 116, 3) := by decide +kernel
theorem dX5_turnOnce_4 : decode cX5_turnOnce 4 = .ok (.iload_n 1, 1) := by decide +kernel
theorem dX5_turnOnce_5 : decode cX5_turnOnce 5 = .ok (.iload_n 2, 1) := by decide +kernel
theorem dX5_turnOnce_6 : decode cX5_turnOnce 6 = .ok (.invokestatic 248, 3) := by decide +kernel
theorem dX5_turnOnce_9 : decode cX5_turnOnce 9 = .ok (.istore_n 3, 1) := by decide +kernel
theorem dX5_turnOnce_10 : decode cX5_turnOnce 10 = .ok (.aload_n 0, 1) := by decide +kernel
theorem dX5_turnOnce_11 : decode cX5_turnOnce 11 = .ok (.getfield 12, 3) := by decide +kernel
theorem dX5_turnOnce_14 : decode cX5_turnOnce 14 = .ok (.iload_n 3, 1) := by decide +kernel
theorem dX5_turnOnce_15 : decode cX5_turnOnce 15 = .ok (.invokevirtual 88, 3) := by decide +kernel
theorem dX5_turnOnce_18 : decode cX5_turnOnce 18 = .ok (.ifCond .ne 14, 3) := by decide +kernel
theorem dX5_turnOnce_21 : decode cX5_turnOnce 21 = .ok (.new 76, 3) := by decide +kernel
theorem dX5_turnOnce_24 : decode cX5_turnOnce 24 = .ok (.dup, 1) := by decide +kernel
theorem dX5_turnOnce_25 : decode cX5_turnOnce 25 = .ok (.ldc_w 309, 3) := by decide +kernel
theorem dX5_turnOnce_28 : decode cX5_turnOnce 28 = .ok (.invokespecial 80, 3) := by decide +kernel
theorem dX5_turnOnce_31 : decode cX5_turnOnce 31 = .ok (.athrow, 1) := by decide +kernel
theorem dX5_turnOnce_32 : decode cX5_turnOnce 32 = .ok (.aload_n 0, 1) := by decide +kernel
theorem dX5_turnOnce_33 : decode cX5_turnOnce 33 = .ok (.invokevirtual 81, 3) := by decide +kernel
theorem dX5_turnOnce_36 : decode cX5_turnOnce 36 = .ok (.aload_n 0, 1) := by decide +kernel
theorem dX5_turnOnce_37 : decode cX5_turnOnce 37 = .ok (.getfield 12, 3) := by decide +kernel
theorem dX5_turnOnce_40 : decode cX5_turnOnce 40 = .ok (.iload_n 3, 1) := by decide +kernel
theorem dX5_turnOnce_41 : decode cX5_turnOnce 41 = .ok (.invokevirtual 92, 3) := by decide +kernel
theorem dX5_turnOnce_44 : decode cX5_turnOnce 44 = .ok (.aload_n 0, 1) := by decide +kernel
theorem dX5_turnOnce_45 : decode cX5_turnOnce 45 = .ok (.getfield 12, 3) := by decide +kernel
theorem dX5_turnOnce_48 : decode cX5_turnOnce 48 = .ok (.aload_n 0, 1) := by decide +kernel
theorem dX5_turnOnce_49 : decode cX5_turnOnce 49 = .ok (.getfield 12, 3) := by decide +kernel
theorem dX5_turnOnce_52 : decode cX5_turnOnce 52 = .ok (.getfield 99, 3) := by decide +kernel
theorem dX5_turnOnce_55 : decode cX5_turnOnce 55 = .ok (.invokevirtual 226, 3) := by decide +kernel
theorem dX5_turnOnce_58 : decode cX5_turnOnce 58 = .ok (.ireturn, 1) := by decide +kernel
theorem dX5_save_0 : decode cX5_save 0 = .ok (.aload_n 0, 1) := by decide +kernel
theorem dX5_save_1 : decode cX5_save 1 = .ok (.getfield 27, 3) := by decide +kernel
theorem dX5_save_4 : decode cX5_save 4 = .ok (.bipush 6, 2) := by decide +kernel
theorem dX5_save_6 : decode cX5_save 6 = .ok (.if_icmp .lt 7, 3) := by decide +kernel
theorem dX5_save_9 : decode cX5_save 9 = .ok (.aload_n 0, 1) := by decide +kernel
theorem dX5_save_10 : decode cX5_save 10 = .ok (.invokevirtual 311, 3) := by decide +kernel
theorem dX5_save_13 : decode cX5_save 13 = .ok (.aload_n 0, 1) := by decide +kernel
theorem dX5_save_14 : decode cX5_save 14 = .ok (.getfield 27, 3) := by decide +kernel
theorem dX5_save_17 : decode cX5_save 17 = .ok (.ifCond .lt 25, 3) := by decide +kernel
theorem dX5_save_20 : decode cX5_save 20 = .ok (.aload_n 0, 1) := by decide +kernel
theorem dX5_save_21 : decode cX5_save 21 = .ok (.getfield 27, 3) := by decide +kernel
theorem dX5_save_24 : decode cX5_save 24 = .ok (.bipush 6, 2) := by decide +kernel
theorem dX5_save_26 : decode cX5_save 26 = .ok (.if_icmp .ge 16, 3) := by decide +kernel
theorem dX5_save_29 : decode cX5_save 29 = .ok (.aload_n 0, 1) := by decide +kernel
theorem dX5_save_30 : decode cX5_save 30 = .ok (.aload_n 0, 1) := by decide +kernel
theorem dX5_save_31 : decode cX5_save 31 = .ok (.getfield 23, 3) := by decide +kernel
theorem dX5_save_34 : decode cX5_save 34 = .ok (.aload_n 0, 1) := by decide +kernel
theorem dX5_save_35 : decode cX5_save 35 = .ok (.getfield 27, 3) := by decide +kernel
theorem dX5_save_38 : decode cX5_save 38 = .ok (.aaload, 1) := by decide +kernel
theorem dX5_save_39 : decode cX5_save 39 = .ok (.invokevirtual 314, 3) := by decide +kernel
theorem dX5_save_42 : decode cX5_save 42 = .ok (.return_, 1) := by decide +kernel
theorem dX5_writeSaved_0 : decode cX5_writeSaved 0 = .ok (.aload_n 1, 1) := by decide +kernel
theorem dX5_writeSaved_1 : decode cX5_writeSaved 1 = .ok (.ifnull 21, 3) := by decide +kernel
theorem dX5_writeSaved_4 : decode cX5_writeSaved 4 = .ok (.aload_n 1, 1) := by decide +kernel
theorem dX5_writeSaved_5 : decode cX5_writeSaved 5 = .ok (.aload_n 0, 1) := by decide +kernel
theorem dX5_writeSaved_6 : decode cX5_writeSaved 6 = .ok (.getfield 12, 3) := by decide +kernel
theorem dX5_writeSaved_9 : decode cX5_writeSaved 9 = .ok (.invokevirtual 167, 3) := by decide +kernel
theorem dX5_writeSaved_12 : decode cX5_writeSaved 12 = .ok (.aload_n 0, 1) := by decide +kernel
theorem dX5_writeSaved_13 : decode cX5_writeSaved 13 = .ok (.dup, 1) := by decide +kernel
theorem dX5_writeSaved_14 : decode cX5_writeSaved 14 = .ok (.getfield 27, 3) := by decide +kernel
theorem dX5_writeSaved_17 : decode cX5_writeSaved 17 = .ok (.iconst 1, 1) := by decide +kernel
theorem dX5_writeSaved_18 : decode cX5_writeSaved 18 = .ok (.iadd, 1) := by decide +kernel
theorem dX5_writeSaved_19 : decode cX5_writeSaved 19 = .ok (.putfield 27, 3) := by decide +kernel
theorem dX5_writeSaved_22 : decode cX5_writeSaved 22 = .ok (.return_, 1) := by decide +kernel
theorem dX5_dropOldest_0 : decode cX5_dropOldest 0 = .ok (.aload_n 0, 1) := by decide +kernel
theorem dX5_dropOldest_1 : decode cX5_dropOldest 1 = .ok (.getfield 23, 3) := by decide +kernel
theorem dX5_dropOldest_4 : decode cX5_dropOldest 4 = .ok (.iconst 0, 1) := by decide +kernel
theorem dX5_dropOldest_5 : decode cX5_dropOldest 5 = .ok (.aaload, 1) := by decide +kernel
theorem dX5_dropOldest_6 : decode cX5_dropOldest 6 = .ok (.astore_n 1, 1) := by decide +kernel
theorem dX5_dropOldest_7 : decode cX5_dropOldest 7 = .ok (.iconst 1, 1) := by decide +kernel
theorem dX5_dropOldest_8 : decode cX5_dropOldest 8 = .ok (.istore_n 2, 1) := by decide +kernel
theorem dX5_dropOldest_9 : decode cX5_dropOldest 9 = .ok (.iload_n 2, 1) := by decide +kernel
theorem dX5_dropOldest_10 : decode cX5_dropOldest 10 = .ok (.bipush 6, 2) := by decide +kernel
theorem dX5_dropOldest_12 : decode cX5_dropOldest 12 = .ok (.if_icmp .ge 23, 3) := by decide +kernel
theorem dX5_dropOldest_15 : decode cX5_dropOldest 15 = .ok (.aload_n 0, 1) := by decide +kernel
theorem dX5_dropOldest_16 : decode cX5_dropOldest 16 = .ok (.getfield 23, 3) := by decide +kernel
theorem dX5_dropOldest_19 : decode cX5_dropOldest 19 = .ok (.iload_n 2, 1) := by decide +kernel
theorem dX5_dropOldest_20 : decode cX5_dropOldest 20 = .ok (.iconst 1, 1) := by decide +kernel
theorem dX5_dropOldest_21 : decode cX5_dropOldest 21 = .ok (.isub, 1) := by decide +kernel
theorem dX5_dropOldest_22 : decode cX5_dropOldest 22 = .ok (.aload_n 0, 1) := by decide +kernel
theorem dX5_dropOldest_23 : decode cX5_dropOldest 23 = .ok (.getfield 23, 3) := by decide +kernel
theorem dX5_dropOldest_26 : decode cX5_dropOldest 26 = .ok (.iload_n 2, 1) := by decide +kernel
theorem dX5_dropOldest_27 : decode cX5_dropOldest 27 = .ok (.aaload, 1) := by decide +kernel
theorem dX5_dropOldest_28 : decode cX5_dropOldest 28 = .ok (.aastore, 1) := by decide +kernel
theorem dX5_dropOldest_29 : decode cX5_dropOldest 29 = .ok (.iinc 2 1, 3) := by decide +kernel
theorem dX5_dropOldest_32 : decode cX5_dropOldest 32 = .ok (.goto (-23), 3) := by decide +kernel
theorem dX5_dropOldest_35 : decode cX5_dropOldest 35 = .ok (.aload_n 0, 1) := by decide +kernel
theorem dX5_dropOldest_36 : decode cX5_dropOldest 36 = .ok (.getfield 23, 3) := by decide +kernel
theorem dX5_dropOldest_39 : decode cX5_dropOldest 39 = .ok (.iconst 5, 1) := by decide +kernel
theorem dX5_dropOldest_40 : decode cX5_dropOldest 40 = .ok (.aload_n 1, 1) := by decide +kernel
theorem dX5_dropOldest_41 : decode cX5_dropOldest 41 = .ok (.aastore, 1) := by decide +kernel
theorem dX5_dropOldest_42 : decode cX5_dropOldest 42 = .ok (.aload_n 0, 1) := by decide +kernel
theorem dX5_dropOldest_43 : decode cX5_dropOldest 43 = .ok (.iconst 5, 1) := by decide +kernel
theorem dX5_dropOldest_44 : decode cX5_dropOldest 44 = .ok (.putfield 27, 3) := by decide +kernel
theorem dX5_dropOldest_47 : decode cX5_dropOldest 47 = .ok (.return_, 1) := by decide +kernel
theorem dX5_showKey_0 : decode cX5_showKey 0 = .ok (.aload_n 0, 1) := by decide +kernel
theorem dX5_showKey_1 : decode cX5_showKey 1 = .ok (.getfield 41, 3) := by decide +kernel
theorem dX5_showKey_4 : decode cX5_showKey 4 = .ok (.invokevirtual 110, 3) := by decide +kernel
theorem dX5_showKey_7 : decode cX5_showKey 7 = .ok (.aload_n 0, 1) := by decide +kernel
theorem dX5_showKey_8 : decode cX5_showKey 8 = .ok (.getfield 12, 3) := by decide +kernel
theorem dX5_showKey_11 : decode cX5_showKey 11 = .ok (.getfield 124, 3) := by decide +kernel
theorem dX5_showKey_14 : decode cX5_showKey 14 = .ok (.aload_n 0, 1) := by decide +kernel
theorem dX5_showKey_15 : decode cX5_showKey 15 = .ok (.getfield 41, 3) := by decide +kernel
theorem dX5_showKey_18 : decode cX5_showKey 18 = .ok (.iload_n 1, 1) := by decide +kernel
theorem dX5_showKey_19 : decode cX5_showKey 19 = .ok (.iconst 0, 1) := by decide +kernel
theorem dX5_showKey_20 : decode cX5_showKey 20 = .ok (.invokestatic 248, 3) := by decide +kernel
theorem dX5_showKey_23 : decode cX5_showKey 23 = .ok (.invokevirtual 251, 3) := by decide +kernel
theorem dX5_showKey_26 : decode cX5_showKey 26 = .ok (.return_, 1) := by decide +kernel
theorem dX5_showPair_0 : decode cX5_showPair 0 = .ok (.aload_n 0, 1) := by decide +kernel
theorem dX5_showPair_1 : decode cX5_showPair 1 = .ok (.getfield 41, 3) := by decide +kernel
theorem dX5_showPair_4 : decode cX5_showPair 4 = .ok (.invokevirtual 110, 3) := by decide +kernel
theorem dX5_showPair_7 : decode cX5_showPair 7 = .ok (.aload_n 0, 1) := by decide +kernel
theorem dX5_showPair_8 : decode cX5_showPair 8 = .ok (.getfield 12, 3) := by decide +kernel
theorem dX5_showPair_11 : decode cX5_showPair 11 = .ok (.getfield 124, 3) := by decide +kernel
theorem dX5_showPair_14 : decode cX5_showPair 14 = .ok (.aload_n 0, 1) := by decide +kernel
theorem dX5_showPair_15 : decode cX5_showPair 15 = .ok (.getfield 41, 3) := by decide +kernel
theorem dX5_showPair_18 : decode cX5_showPair 18 = .ok (.iload_n 1, 1) := by decide +kernel
theorem dX5_showPair_19 : decode cX5_showPair 19 = .ok (.iconst 0, 1) := by decide +kernel
theorem dX5_showPair_20 : decode cX5_showPair 20 = .ok (.invokestatic 248, 3) := by decide +kernel
theorem dX5_showPair_23 : decode cX5_showPair 23 = .ok (.invokevirtual 251, 3) := by decide +kernel
theorem dX5_showPair_26 : decode cX5_showPair 26 = .ok (.aload_n 0, 1) := by decide +kernel
theorem dX5_showPair_27 : decode cX5_showPair 27 = .ok (.getfield 12, 3) := by decide +kernel
theorem dX5_showPair_30 : decode cX5_showPair 30 = .ok (.getfield 124, 3) := by decide +kernel
theorem dX5_showPair_33 : decode cX5_showPair 33 = .ok (.aload_n 0, 1) := by decide +kernel
theorem dX5_showPair_34 : decode cX5_showPair 34 = .ok (.getfield 41, 3) := by decide +kernel
theorem dX5_showPair_37 : decode cX5_showPair 37 = .ok (.iload_n 2, 1) := by decide +kernel
theorem dX5_showPair_38 : decode cX5_showPair 38 = .ok (.iconst 0, 1) := by decide +kernel
theorem dX5_showPair_39 : decode cX5_showPair 39 = .ok (.invokestatic 248, 3) := by decide +kernel
theorem dX5_showPair_42 : decode cX5_showPair 42 = .ok (.invokevirtual 251, 3) := by decide +kernel
theorem dX5_showPair_45 : decode cX5_showPair 45 = .ok (.aload_n 0, 1) := by decide +kernel
theorem dX5_showPair_46 : decode cX5_showPair 46 = .ok (.getfield 12, 3) := by decide +kernel
theorem dX5_showPair_49 : decode cX5_showPair 49 = .ok (.getfield 124, 3) := by decide +kernel
theorem dX5_showPair_52 : decode cX5_showPair 52 = .ok (.aload_n 0, 1) := by decide +kernel
theorem dX5_showPair_53 : decode cX5_showPair 53 = .ok (.getfield 41, 3) := by decide +kernel
theorem dX5_showPair_56 : decode cX5_showPair 56 = .ok (.iload_n 1, 1) := by decide +kernel
theorem dX5_showPair_57 : decode cX5_showPair 57 = .ok (.iconst 1, 1) := by decide +kernel
theorem dX5_showPair_58 : decode cX5_showPair 58 = .ok (.invokestatic 248, 3) := by decide +kernel
theorem dX5_showPair_61 : decode cX5_showPair 61 = .ok (.invokevirtual 251, 3) := by decide +kernel
theorem dX5_showPair_64 : decode cX5_showPair 64 = .ok (.aload_n 0, 1) := by decide +kernel
theorem dX5_showPair_65 : decode cX5_showPair 65 = .ok (.getfield 12, 3) := by decide +kernel
theorem dX5_showPair_68 : decode cX5_showPair 68 = .ok (.getfield 124, 3) := by decide +kernel
theorem dX5_showPair_71 : decode cX5_showPair 71 = .ok (.aload_n 0, 1) := by decide +kernel
theorem dX5_showPair_72 : decode cX5_showPair 72 = .ok (.getfield 41, 3) := by decide +kernel
theorem dX5_showPair_75 : decode cX5_showPair 75 = .ok (.iload_n 2, 1) := by decide +kernel
theorem dX5_showPair_76 : decode cX5_showPair 76 = .ok (.iconst 1, 1) := by decide +kernel
theorem dX5_showPair_77 : decode cX5_showPair 77 = .ok (.invokestatic 248, 3) := by decide +kernel
theorem dX5_showPair_80 : decode cX5_showPair 80 = .ok (.invokevirtual 251, 3) := by decide +kernel
theorem dX5_showPair_83 : decode cX5_showPair 83 = .ok (.return_, 1) := by decide +kernel
theorem dX5_showWord_0 : decode cX5_showWord 0 = .ok (.aload_n 0, 1) := by decide +kernel
theorem dX5_showWord_1 : decode cX5_showWord 1 = .ok (.getfield 41, 3) := by decide +kernel
theorem dX5_showWord_4 : decode cX5_showWord 4 = .ok (.invokevirtual 110, 3) := by decide +kernel
theorem dX5_showWord_7 : decode cX5_showWord 7 = .ok (.iconst 0, 1) := by decide +kernel
theorem dX5_showWord_8 : decode cX5_showWord 8 = .ok (.istore_n 1, 1) := by decide +kernel
theorem dX5_showWord_9 : decode cX5_showWord 9 = .ok (.iload_n 1, 1) := by decide +kernel
theorem dX5_showWord_10 : decode cX5_showWord 10 = .ok (.aload_n 0, 1) := by decide +kernel
theorem dX5_showWord_11 : decode cX5_showWord 11 = .ok (.getfield 34, 3) := by decide +kernel
theorem dX5_showWord_14 : decode cX5_showWord 14 = .ok (.getfield 73, 3) := by decide +kernel
theorem dX5_showWord_17 : decode cX5_showWord 17 = .ok (.if_icmp .ge 38, 3) := by decide +kernel
theorem dX5_showWord_20 : decode cX5_showWord 20 = .ok (.iload_n 1, 1) := by decide +kernel
theorem dX5_showWord_21 : decode cX5_showWord 21 = .ok (.sipush 500, 3) := by decide +kernel
theorem dX5_showWord_24 : decode cX5_showWord 24 = .ok (.if_icmp .ge 31, 3) := by decide +kernel
theorem dX5_showWord_27 : decode cX5_showWord 27 = .ok (.aload_n 0, 1) := by decide +kernel
theorem dX5_showWord_28 : decode cX5_showWord 28 = .ok (.getfield 12, 3) := by decide +kernel
theorem dX5_showWord_31 : decode cX5_showWord 31 = .ok (.getfield 124, 3) := by decide +kernel
theorem dX5_showWord_34 : decode cX5_showWord 34 = .ok (.aload_n 0, 1) := by decide +kernel
theorem dX5_showWord_35 : decode cX5_showWord 35 = .ok (.getfield 41, 3) := by decide +kernel
theorem dX5_showWord_38 : decode cX5_showWord 38 = .ok (.aload_n 0, 1) := by decide +kernel
theorem dX5_showWord_39 : decode cX5_showWord 39 = .ok (.getfield 34, 3) := by decide +kernel
theorem dX5_showWord_42 : decode cX5_showWord 42 = .ok (.iload_n 1, 1) := by decide +kernel
theorem dX5_showWord_43 : decode cX5_showWord 43 = .ok (.invokevirtual 84, 3) := by decide +kernel
theorem dX5_showWord_46 : decode cX5_showWord 46 = .ok (.invokevirtual 251, 3) := by decide +kernel
theorem dX5_showWord_49 : decode cX5_showWord 49 = .ok (.iinc 1 1, 3) := by decide +kernel
theorem dX5_showWord_52 : decode cX5_showWord 52 = .ok (.goto (-43), 3) := by decide +kernel
theorem dX5_showWord_55 : decode cX5_showWord 55 = .ok (.return_, 1) := by decide +kernel
theorem dX5_ofShortWord_0 : decode cX5_ofShortWord 0 = .ok (.iload_n 1, 1) := by decide +kernel
theorem dX5_ofShortWord_1 : decode cX5_ofShortWord 1 = .ok (.iconst 4, 1) := by decide +kernel
theorem dX5_ofShortWord_2 : decode cX5_ofShortWord 2 = .ok (.if_icmp .ne 11, 3) := by decide +kernel
theorem dX5_ofShortWord_5 : decode cX5_ofShortWord 5 = .ok (.aload_n 0, 1) := by decide +kernel
theorem dX5_ofShortWord_6 : decode cX5_ofShortWord 6 = .ok (.getfield 34, 3) := by decide +kernel
theorem dX5_ofShortWord_9 : decode cX5_ofShortWord 9 = .ok (.invokevirtual 317, 3) := by decide +kernel
theorem dX5_ofShortWord_12 : decode cX5_ofShortWord 12 = .ok (.ireturn, 1) := by decide +kernel
theorem dX5_ofShortWord_13 : decode cX5_ofShortWord 13 = .ok (.aload_n 0, 1) := by decide +kernel
theorem dX5_ofShortWord_14 : decode cX5_ofShortWord 14 = .ok (.invokevirtual 320, 3) := by decide +kernel
theorem dX5_ofShortWord_17 : decode cX5_ofShortWord 17 = .ok (.iload_n 1, 1) := by decide +kernel
theorem dX5_ofShortWord_18 : decode cX5_ofShortWord 18 = .ok (.lookupswitch 39 #[(1, 26), (2, 34)], 26) := by decide +kernel
theorem dX5_ofShortWord_44 : decode cX5_ofShortWord 44 = .ok (.aload_n 0, 1) := by decide +kernel
theorem dX5_ofShortWord_45 : decode cX5_ofShortWord 45 = .ok (.getfield 41, 3) := by decide +kernel
theorem dX5_ofShortWord_48 : decode cX5_ofShortWord 48 = .ok (.invokevirtual 102, 3) := by decide +kernel
theorem dX5_ofShortWord_51 : decode cX5_ofShortWord 51 = .ok (.ireturn, 1) := by decide +kernel
theorem dX5_ofShortWord_52 : decode cX5_ofShortWord 52 = .ok (.aload_n 0, 1) := by decide +kernel
theorem dX5_ofShortWord_53 : decode cX5_ofShortWord 53 = .ok (.invokevirtual 198, 3) := by decide +kernel
theorem dX5_ofShortWord_56 : decode cX5_ofShortWord 56 = .ok (.ireturn, 1) := by decide +kernel
theorem dX5_ofShortWord_57 : decode cX5_ofShortWord 57 = .ok (.aload_n 0, 1) := by decide +kernel
theorem dX5_ofShortWord_58 : decode cX5_ofShortWord 58 = .ok (.getfield 41, 3) := by decide +kernel
theorem dX5_ofShortWord_61 : decode cX5_ofShortWord 61 = .ok (.invokevirtual 201, 3) := by decide +kernel
theorem dX5_ofShortWord_64 : decode cX5_ofShortWord 64 = .ok (.ireturn, 1) := by decide +kernel
theorem dX5_periodByDoing_0 : decode cX5_periodByDoing 0 = .ok (.aload_n 0, 1) := by decide +kernel
theorem dX5_periodByDoing_1 : decode cX5_periodByDoing 1 = .ok (.getfield 45, 3) := by decide +kernel
theorem dX5_periodByDoing_4 : decode cX5_periodByDoing 4 = .ok (.aload_n 0, 1) := by decide +kernel
theorem dX5_periodByDoing_5 : decode cX5_periodByDoing 5 = .ok (.getfield 41, 3) := by decide +kernel
theorem dX5_periodByDoing_8 : decode cX5_periodByDoing 8 = .ok (.invokevirtual 149, 3) := by decide +kernel
theorem dX5_periodByDoing_11 : decode cX5_periodByDoing 11 = .ok (.iconst 1, 1) := by decide +kernel
theorem dX5_periodByDoing_12 : decode cX5_periodByDoing 12 = .ok (.istore_n 1, 1) := by decide +kernel
theorem dX5_periodByDoing_13 : decode cX5_periodByDoing 13 = .ok (.iload_n 1, 1) := by decide +kernel
theorem dX5_periodByDoing_14 : decode cX5_periodByDoing 14 = .ok (.ldc_w 323, 3) := by decide +kernel
theorem dX5_periodByDoing_17 : decode cX5_periodByDoing 17 = .ok (.if_icmp .ge 30, 3) := by decide +kernel
theorem dX5_periodByDoing_20 : decode cX5_periodByDoing 20 = .ok (.aload_n 0, 1) := by decide +kernel
theorem dX5_periodByDoing_21 : decode cX5_periodByDoing 21 = .ok (.getfield 45, 3) := by decide +kernel
theorem dX5_periodByDoing_24 : decode cX5_periodByDoing 24 = .ok (.invokevirtual 102, 3) := by decide +kernel
theorem dX5_periodByDoing_27 : decode cX5_periodByDoing 27 = .ok (.ifCond .eq 20, 3) := by decide +kernel
theorem dX5_periodByDoing_30 : decode cX5_periodByDoing 30 = .ok (.aload_n 0, 1) := by decide +kernel
theorem dX5_periodByDoing_31 : decode cX5_periodByDoing 31 = .ok (.getfield 45, 3) := by decide +kernel
theorem dX5_periodByDoing_34 : decode cX5_periodByDoing 34 = .ok (.aload_n 0, 1) := by decide +kernel
theorem dX5_periodByDoing_35 : decode cX5_periodByDoing 35 = .ok (.getfield 41, 3) := by decide +kernel
theorem dX5_periodByDoing_38 : decode cX5_periodByDoing 38 = .ok (.invokevirtual 324, 3) := by decide +kernel
theorem dX5_periodByDoing_41 : decode cX5_periodByDoing 41 = .ok (.iinc 1 1, 3) := by decide +kernel
theorem dX5_periodByDoing_44 : decode cX5_periodByDoing 44 = .ok (.goto (-31), 3) := by decide +kernel
theorem dX5_periodByDoing_47 : decode cX5_periodByDoing 47 = .ok (.iload_n 1, 1) := by decide +kernel
theorem dX5_periodByDoing_48 : decode cX5_periodByDoing 48 = .ok (.ireturn, 1) := by decide +kernel
theorem dX5_mix_0 : decode cX5_mix 0 = .ok (.ldc2_w 327, 3) := by decide +kernel
theorem dX5_mix_3 : decode cX5_mix 3 = .ok (.lload_n 0, 1) := by decide +kernel
theorem dX5_mix_4 : decode cX5_mix 4 = .ok (.lmul, 1) := by decide +kernel
theorem dX5_mix_5 : decode cX5_mix 5 = .ok (.lload_n 2, 1) := by decide +kernel
theorem dX5_mix_6 : decode cX5_mix 6 = .ok (.ladd, 1) := by decide +kernel
theorem dX5_mix_7 : decode cX5_mix 7 = .ok (.lreturn, 1) := by decide +kernel
theorem dX5_mixPositions_0 : decode cX5_mixPositions 0 = .ok (.lload_n 1, 1) := by decide +kernel
theorem dX5_mixPositions_1 : decode cX5_mixPositions 1 = .ok (.lstore_n 3, 1) := by decide +kernel
theorem dX5_mixPositions_2 : decode cX5_mixPositions 2 = .ok (.iconst 0, 1) := by decide +kernel
theorem dX5_mixPositions_3 : decode cX5_mixPositions 3 = .ok (.istore 5, 2) := by decide +kernel
theorem dX5_mixPositions_5 : decode cX5_mixPositions 5 = .ok (.iload 5, 2) := by decide +kernel
theorem dX5_mixPositions_7 : decode cX5_mixPositions 7 = .ok (.bipush 6, 2) := by decide +kernel
theorem dX5_mixPositions_9 : decode cX5_mixPositions 9 = .ok (.if_icmp .ge 38, 3) := by decide +kernel
theorem dX5_mixPositions_12 : decode cX5_mixPositions 12 = .ok (.iconst 0, 1) := by decide +kernel
theorem dX5_mixPositions_13 : decode cX5_mixPositions 13 = .ok (.istore 6, 2) := by decide +kernel
theorem dX5_mixPositions_15 : decode cX5_mixPositions 15 = .ok (.iload 6, 2) := by decide +kernel
theorem dX5_mixPositions_17 : decode cX5_mixPositions 17 = .ok (.iconst 4, 1) := by decide +kernel
theorem dX5_mixPositions_18 : decode cX5_mixPositions 18 = .ok (.if_icmp .gt 23, 3) := by decide +kernel
theorem dX5_mixPositions_21 : decode cX5_mixPositions 21 = .ok (.lload_n 3, 1) := by decide +kernel
theorem dX5_mixPositions_22 : decode cX5_mixPositions 22 = .ok (.aload_n 0, 1) := by decide +kernel
theorem dX5_mixPositions_23 : decode cX5_mixPositions 23 = .ok (.iload 5, 2) := by decide +kernel
theorem dX5_mixPositions_25 : decode cX5_mixPositions 25 = .ok (.iload 6, 2) := by decide +kernel
theorem dX5_mixPositions_27 : decode cX5_mixPositions 27 = .ok (.invokevirtual 329, 3) := by decide +kernel
theorem dX5_mixPositions_30 : decode cX5_mixPositions 30 = .ok (.i2l, 1) := by decide +kernel
theorem dX5_mixPositions_31 : decode cX5_mixPositions 31 = .ok (.invokestatic 263, 3) := by decide +kernel
theorem dX5_mixPositions_34 : decode cX5_mixPositions 34 = .ok (.lstore_n 3, 1) := by decide +kernel
theorem dX5_mixPositions_35 : decode cX5_mixPositions 35 = .ok (.iinc 6 1, 3) := by decide +kernel
theorem dX5_mixPositions_38 : decode cX5_mixPositions 38 = .ok (.goto (-23), 3) := by decide +kernel
theorem dX5_mixPositions_41 : decode cX5_mixPositions 41 = .ok (.iinc 5 1, 3) := by decide +kernel
theorem dX5_mixPositions_44 : decode cX5_mixPositions 44 = .ok (.goto (-39), 3) := by decide +kernel
theorem dX5_mixPositions_47 : decode cX5_mixPositions 47 = .ok (.lload_n 3, 1) := by decide +kernel
theorem dX5_mixPositions_48 : decode cX5_mixPositions 48 = .ok (.lreturn, 1) := by decide +kernel
theorem dX5_mixKeys_0 : decode cX5_mixKeys 0 = .ok (.lload_n 1, 1) := by decide +kernel
theorem dX5_mixKeys_1 : decode cX5_mixKeys 1 = .ok (.lstore_n 3, 1) := by decide +kernel
theorem dX5_mixKeys_2 : decode cX5_mixKeys 2 = .ok (.iconst 0, 1) := by decide +kernel
theorem dX5_mixKeys_3 : decode cX5_mixKeys 3 = .ok (.istore 5, 2) := by decide +kernel
theorem dX5_mixKeys_5 : decode cX5_mixKeys 5 = .ok (.iload 5, 2) := by decide +kernel
theorem dX5_mixKeys_7 : decode cX5_mixKeys 7 = .ok (.iconst 5, 1) := by decide +kernel
theorem dX5_mixKeys_8 : decode cX5_mixKeys 8 = .ok (.if_icmp .ge 64, 3) := by decide +kernel
theorem dX5_mixKeys_11 : decode cX5_mixKeys 11 = .ok (.iconst 0, 1) := by decide +kernel
theorem dX5_mixKeys_12 : decode cX5_mixKeys 12 = .ok (.istore 6, 2) := by decide +kernel
theorem dX5_mixKeys_14 : decode cX5_mixKeys 14 = .ok (.iload 6, 2) := by decide +kernel
theorem dX5_mixKeys_16 : decode cX5_mixKeys 16 = .ok (.iconst 5, 1) := by decide +kernel
theorem dX5_mixKeys_17 : decode cX5_mixKeys 17 = .ok (.if_icmp .gt 23, 3) := by decide +kernel
theorem dX5_mixKeys_20 : decode cX5_mixKeys 20 = .ok (.lload_n 3, 1) := by decide +kernel
theorem dX5_mixKeys_21 : decode cX5_mixKeys 21 = .ok (.aload_n 0, 1) := by decide +kernel
theorem dX5_mixKeys_22 : decode cX5_mixKeys 22 = .ok (.iload 5, 2) := by decide +kernel
theorem dX5_mixKeys_24 : decode cX5_mixKeys 24 = .ok (.iload 6, 2) := by decide +kernel
theorem dX5_mixKeys_26 : decode cX5_mixKeys 26 = .ok (.invokevirtual 332, 3) := by decide +kernel
theorem dX5_mixKeys_29 : decode cX5_mixKeys 29 = .ok (.i2l, 1) := by decide +kernel
theorem dX5_mixKeys_30 : decode cX5_mixKeys 30 = .ok (.invokestatic 263, 3) := by decide +kernel
theorem dX5_mixKeys_33 : decode cX5_mixKeys 33 = .ok (.lstore_n 3, 1) := by decide +kernel
theorem dX5_mixKeys_34 : decode cX5_mixKeys 34 = .ok (.iinc 6 1, 3) := by decide +kernel
theorem dX5_mixKeys_37 : decode cX5_mixKeys 37 = .ok (.goto (-23), 3) := by decide +kernel
theorem dX5_mixKeys_40 : decode cX5_mixKeys 40 = .ok (.lload_n 3, 1) := by decide +kernel
theorem dX5_mixKeys_41 : decode cX5_mixKeys 41 = .ok (.aload_n 0, 1) := by decide +kernel
theorem dX5_mixKeys_42 : decode cX5_mixKeys 42 = .ok (.iload 5, 2) := by decide +kernel
theorem dX5_mixKeys_44 : decode cX5_mixKeys 44 = .ok (.iconst 0, 1) := by decide +kernel
theorem dX5_mixKeys_45 : decode cX5_mixKeys 45 = .ok (.invokevirtual 335, 3) := by decide +kernel
theorem dX5_mixKeys_48 : decode cX5_mixKeys 48 = .ok (.i2l, 1) := by decide +kernel
theorem dX5_mixKeys_49 : decode cX5_mixKeys 49 = .ok (.invokestatic 263, 3) := by decide +kernel
theorem dX5_mixKeys_52 : decode cX5_mixKeys 52 = .ok (.lstore_n 3, 1) := by decide +kernel
theorem dX5_mixKeys_53 : decode cX5_mixKeys 53 = .ok (.lload_n 3, 1) := by decide +kernel
theorem dX5_mixKeys_54 : decode cX5_mixKeys 54 = .ok (.aload_n 0, 1) := by decide +kernel
theorem dX5_mixKeys_55 : decode cX5_mixKeys 55 = .ok (.iload 5, 2) := by decide +kernel
theorem dX5_mixKeys_57 : decode cX5_mixKeys 57 = .ok (.iconst 1, 1) := by decide +kernel
theorem dX5_mixKeys_58 : decode cX5_mixKeys 58 = .ok (.invokevirtual 335, 3) := by decide +kernel
theorem dX5_mixKeys_61 : decode cX5_mixKeys 61 = .ok (.i2l, 1) := by decide +kernel
theorem dX5_mixKeys_62 : decode cX5_mixKeys 62 = .ok (.invokestatic 263, 3) := by decide +kernel
theorem dX5_mixKeys_65 : decode cX5_mixKeys 65 = .ok (.lstore_n 3, 1) := by decide +kernel
theorem dX5_mixKeys_66 : decode cX5_mixKeys 66 = .ok (.iinc 5 1, 3) := by decide +kernel
theorem dX5_mixKeys_69 : decode cX5_mixKeys 69 = .ok (.goto (-64), 3) := by decide +kernel
theorem dX5_mixKeys_72 : decode cX5_mixKeys 72 = .ok (.lload_n 3, 1) := by decide +kernel
theorem dX5_mixKeys_73 : decode cX5_mixKeys 73 = .ok (.lreturn, 1) := by decide +kernel
theorem dX5_mixPairs_0 : decode cX5_mixPairs 0 = .ok (.lload_n 1, 1) := by decide +kernel
theorem dX5_mixPairs_1 : decode cX5_mixPairs 1 = .ok (.lstore_n 3, 1) := by decide +kernel
theorem dX5_mixPairs_2 : decode cX5_mixPairs 2 = .ok (.iconst 0, 1) := by decide +kernel
theorem dX5_mixPairs_3 : decode cX5_mixPairs 3 = .ok (.istore 5, 2) := by decide +kernel
theorem dX5_mixPairs_5 : decode cX5_mixPairs 5 = .ok (.iload 5, 2) := by decide +kernel
theorem dX5_mixPairs_7 : decode cX5_mixPairs 7 = .ok (.iconst 5, 1) := by decide +kernel
theorem dX5_mixPairs_8 : decode cX5_mixPairs 8 = .ok (.if_icmp .ge 55, 3) := by decide +kernel
theorem dX5_mixPairs_11 : decode cX5_mixPairs 11 = .ok (.iconst 0, 1) := by decide +kernel
theorem dX5_mixPairs_12 : decode cX5_mixPairs 12 = .ok (.istore 6, 2) := by decide +kernel
theorem dX5_mixPairs_14 : decode cX5_mixPairs 14 = .ok (.iload 6, 2) := by decide +kernel
theorem dX5_mixPairs_16 : decode cX5_mixPairs 16 = .ok (.iconst 5, 1) := by decide +kernel
theorem dX5_mixPairs_17 : decode cX5_mixPairs 17 = .ok (.if_icmp .ge 40, 3) := by decide +kernel
theorem dX5_mixPairs_20 : decode cX5_mixPairs 20 = .ok (.iconst 0, 1) := by decide +kernel
theorem dX5_mixPairs_21 : decode cX5_mixPairs 21 = .ok (.istore 7, 2) := by decide +kernel
theorem dX5_mixPairs_23 : decode cX5_mixPairs 23 = .ok (.iload 7, 2) := by decide +kernel
theorem dX5_mixPairs_25 : decode cX5_mixPairs 25 = .ok (.iconst 4, 1) := by decide +kernel
theorem dX5_mixPairs_26 : decode cX5_mixPairs 26 = .ok (.if_icmp .gt 25, 3) := by decide +kernel
theorem dX5_mixPairs_29 : decode cX5_mixPairs 29 = .ok (.lload_n 3, 1) := by decide +kernel
theorem dX5_mixPairs_30 : decode cX5_mixPairs 30 = .ok (.aload_n 0, 1) := by decide +kernel
theorem dX5_mixPairs_31 : decode cX5_mixPairs 31 = .ok (.iload 5, 2) := by decide +kernel
theorem dX5_mixPairs_33 : decode cX5_mixPairs 33 = .ok (.iload 6, 2) := by decide +kernel
theorem dX5_mixPairs_35 : decode cX5_mixPairs 35 = .ok (.iload 7, 2) := by decide +kernel
theorem dX5_mixPairs_37 : decode cX5_mixPairs 37 = .ok (.invokevirtual 338, 3) := by decide +kernel
theorem dX5_mixPairs_40 : decode cX5_mixPairs 40 = .ok (.i2l, 1) := by decide +kernel
theorem dX5_mixPairs_41 : decode cX5_mixPairs 41 = .ok (.invokestatic 263, 3) := by decide +kernel
theorem dX5_mixPairs_44 : decode cX5_mixPairs 44 = .ok (.lstore_n 3, 1) := by decide +kernel
theorem dX5_mixPairs_45 : decode cX5_mixPairs 45 = .ok (.iinc 7 1, 3) := by decide +kernel
theorem dX5_mixPairs_48 : decode cX5_mixPairs 48 = .ok (.goto (-25), 3) := by decide +kernel
theorem dX5_mixPairs_51 : decode cX5_mixPairs 51 = .ok (.iinc 6 1, 3) := by decide +kernel
theorem dX5_mixPairs_54 : decode cX5_mixPairs 54 = .ok (.goto (-40), 3) := by decide +kernel
theorem dX5_mixPairs_57 : decode cX5_mixPairs 57 = .ok (.iinc 5 1, 3) := by decide +kernel
theorem dX5_mixPairs_60 : decode cX5_mixPairs 60 = .ok (.goto (-55), 3) := by decide +kernel
theorem dX5_mixPairs_63 : decode cX5_mixPairs 63 = .ok (.lload_n 3, 1) := by decide +kernel
theorem dX5_mixPairs_64 : decode cX5_mixPairs 64 = .ok (.lreturn, 1) := by decide +kernel
theorem dX5_mixBuffer_0 : decode cX5_mixBuffer 0 = .ok (.lload_n 1, 1) := by decide +kernel
theorem dX5_mixBuffer_1 : decode cX5_mixBuffer 1 = .ok (.aload_n 0, 1) := by decide +kernel
theorem dX5_mixBuffer_2 : decode cX5_mixBuffer 2 = .ok (.getfield 34, 3) := by decide +kernel
theorem dX5_mixBuffer_5 : decode cX5_mixBuffer 5 = .ok (.getfield 96, 3) := by decide +kernel
theorem dX5_mixBuffer_8 : decode cX5_mixBuffer 8 = .ok (.i2l, 1) := by decide +kernel
theorem dX5_mixBuffer_9 : decode cX5_mixBuffer 9 = .ok (.invokestatic 263, 3) := by decide +kernel
theorem dX5_mixBuffer_12 : decode cX5_mixBuffer 12 = .ok (.lstore_n 3, 1) := by decide +kernel
theorem dX5_mixBuffer_13 : decode cX5_mixBuffer 13 = .ok (.iconst 0, 1) := by decide +kernel
theorem dX5_mixBuffer_14 : decode cX5_mixBuffer 14 = .ok (.istore 5, 2) := by decide +kernel
theorem dX5_mixBuffer_16 : decode cX5_mixBuffer 16 = .ok (.iload 5, 2) := by decide +kernel
theorem dX5_mixBuffer_18 : decode cX5_mixBuffer 18 = .ok (.aload_n 0, 1) := by decide +kernel
theorem dX5_mixBuffer_19 : decode cX5_mixBuffer 19 = .ok (.getfield 34, 3) := by decide +kernel
theorem dX5_mixBuffer_22 : decode cX5_mixBuffer 22 = .ok (.getfield 96, 3) := by decide +kernel
theorem dX5_mixBuffer_25 : decode cX5_mixBuffer 25 = .ok (.if_icmp .ge 31, 3) := by decide +kernel
theorem dX5_mixBuffer_28 : decode cX5_mixBuffer 28 = .ok (.iload 5, 2) := by decide +kernel
theorem dX5_mixBuffer_30 : decode cX5_mixBuffer 30 = .ok (.bipush 60, 2) := by decide +kernel
theorem dX5_mixBuffer_32 : decode cX5_mixBuffer 32 = .ok (.if_icmp .ge 24, 3) := by decide +kernel
theorem dX5_mixBuffer_35 : decode cX5_mixBuffer 35 = .ok (.lload_n 3, 1) := by decide +kernel
theorem dX5_mixBuffer_36 : decode cX5_mixBuffer 36 = .ok (.aload_n 0, 1) := by decide +kernel
theorem dX5_mixBuffer_37 : decode cX5_mixBuffer 37 = .ok (.getfield 34, 3) := by decide +kernel
theorem dX5_mixBuffer_40 : decode cX5_mixBuffer 40 = .ok (.iload 5, 2) := by decide +kernel
theorem dX5_mixBuffer_42 : decode cX5_mixBuffer 42 = .ok (.invokevirtual 342, 3) := by decide +kernel
theorem dX5_mixBuffer_45 : decode cX5_mixBuffer 45 = .ok (.i2l, 1) := by decide +kernel
theorem dX5_mixBuffer_46 : decode cX5_mixBuffer 46 = .ok (.invokestatic 263, 3) := by decide +kernel
theorem dX5_mixBuffer_49 : decode cX5_mixBuffer 49 = .ok (.lstore_n 3, 1) := by decide +kernel
theorem dX5_mixBuffer_50 : decode cX5_mixBuffer 50 = .ok (.iinc 5 1, 3) := by decide +kernel
theorem dX5_mixBuffer_53 : decode cX5_mixBuffer 53 = .ok (.goto (-37), 3) := by decide +kernel
theorem dX5_mixBuffer_56 : decode cX5_mixBuffer 56 = .ok (.lload_n 3, 1) := by decide +kernel
theorem dX5_mixBuffer_57 : decode cX5_mixBuffer 57 = .ok (.lreturn, 1) := by decide +kernel
theorem dX5_doubleBits_0 : decode cX5_doubleBits 0 = .ok (.dload_n 0, 1) := by decide +kernel
theorem dX5_doubleBits_1 : decode cX5_doubleBits 1 = .ok (.dconst 0, 1) := by decide +kernel
theorem dX5_doubleBits_2 : decode cX5_doubleBits 2 = .ok (.dcmp .l, 1) := by decide +kernel
theorem dX5_doubleBits_3 : decode cX5_doubleBits 3 = .ok (.ifCond .gt 5, 3) := by decide +kernel
theorem dX5_doubleBits_6 : decode cX5_doubleBits 6 = .ok (.lconst 0, 1) := by decide +kernel
theorem dX5_doubleBits_7 : decode cX5_doubleBits 7 = .ok (.lreturn, 1) := by decide +kernel
theorem dX5_doubleBits_8 : decode cX5_doubleBits 8 = .ok (.dload_n 0, 1) := by decide +kernel
theorem dX5_doubleBits_9 : decode cX5_doubleBits 9 = .ok (.dstore_n 2, 1) := by decide +kernel
theorem dX5_doubleBits_10 : decode cX5_doubleBits 10 = .ok (.ldc2_w 346, 3) := by decide +kernel
theorem dX5_doubleBits_13 : decode cX5_doubleBits 13 = .ok (.lstore 4, 2) := by decide +kernel
theorem dX5_doubleBits_15 : decode cX5_doubleBits 15 = .ok (.iconst 0, 1) := by decide +kernel
theorem dX5_doubleBits_16 : decode cX5_doubleBits 16 = .ok (.istore 6, 2) := by decide +kernel
theorem dX5_doubleBits_18 : decode cX5_doubleBits 18 = .ok (.iload 6, 2) := by decide +kernel
theorem dX5_doubleBits_20 : decode cX5_doubleBits 20 = .ok (.sipush 2000, 3) := by decide +kernel
theorem dX5_doubleBits_23 : decode cX5_doubleBits 23 = .ok (.if_icmp .ge 27, 3) := by decide +kernel
theorem dX5_doubleBits_26 : decode cX5_doubleBits 26 = .ok (.dload_n 2, 1) := by decide +kernel
theorem dX5_doubleBits_27 : decode cX5_doubleBits 27 = .ok (.dconst 1, 1) := by decide +kernel
theorem dX5_doubleBits_28 : decode cX5_doubleBits 28 = .ok (.dcmp .g, 1) := by decide +kernel
theorem dX5_doubleBits_29 : decode cX5_doubleBits 29 = .ok (.ifCond .ge 21, 3) := by decide +kernel
theorem dX5_doubleBits_32 : decode cX5_doubleBits 32 = .ok (.dload_n 2, 1) := by decide +kernel
theorem dX5_doubleBits_33 : decode cX5_doubleBits 33 = .ok (.ldc2_w 348, 3) := by decide +kernel
theorem dX5_doubleBits_36 : decode cX5_doubleBits 36 = .ok (.dmul, 1) := by decide +kernel
theorem dX5_doubleBits_37 : decode cX5_doubleBits 37 = .ok (.dstore_n 2, 1) := by decide +kernel
theorem dX5_doubleBits_38 : decode cX5_doubleBits 38 = .ok (.lload 4, 2) := by decide +kernel
theorem dX5_doubleBits_40 : decode cX5_doubleBits 40 = .ok (.lconst 1, 1) := by decide +kernel
theorem dX5_doubleBits_41 : decode cX5_doubleBits 41 = .ok (.lsub, 1) := by decide +kernel
theorem dX5_doubleBits_42 : decode cX5_doubleBits 42 = .ok (.lstore 4, 2) := by decide +kernel
theorem dX5_doubleBits_44 : decode cX5_doubleBits 44 = .ok (.iinc 6 1, 3) := by decide +kernel
theorem dX5_doubleBits_47 : decode cX5_doubleBits 47 = .ok (.goto (-29), 3) := by decide +kernel
theorem dX5_doubleBits_50 : decode cX5_doubleBits 50 = .ok (.lload 4, 2) := by decide +kernel
theorem dX5_doubleBits_52 : decode cX5_doubleBits 52 = .ok (.bipush 52, 2) := by decide +kernel
theorem dX5_doubleBits_54 : decode cX5_doubleBits 54 = .ok (.lshl, 1) := by decide +kernel
theorem dX5_doubleBits_55 : decode cX5_doubleBits 55 = .ok (.dload_n 2, 1) := by decide +kernel
theorem dX5_doubleBits_56 : decode cX5_doubleBits 56 = .ok (.dconst 1, 1) := by decide +kernel
theorem dX5_doubleBits_57 : decode cX5_doubleBits 57 = .ok (.dsub, 1) := by decide +kernel
theorem dX5_doubleBits_58 : decode cX5_doubleBits 58 = .ok (.ldc2_w 350, 3) := by decide +kernel
theorem dX5_doubleBits_61 : decode cX5_doubleBits 61 = .ok (.dmul, 1) := by decide +kernel
theorem dX5_doubleBits_62 : decode cX5_doubleBits 62 = .ok (.d2l, 1) := by decide +kernel
theorem dX5_doubleBits_63 : decode cX5_doubleBits 63 = .ok (.lor, 1) := by decide +kernel
theorem dX5_doubleBits_64 : decode cX5_doubleBits 64 = .ok (.lreturn, 1) := by decide +kernel
theorem dX5_floatBits_0 : decode cX5_floatBits 0 = .ok (.fload_n 0, 1) := by decide +kernel
theorem dX5_floatBits_1 : decode cX5_floatBits 1 = .ok (.fconst 0, 1) := by decide +kernel
theorem dX5_floatBits_2 : decode cX5_floatBits 2 = .ok (.fcmp .l, 1) := by decide +kernel
theorem dX5_floatBits_3 : decode cX5_floatBits 3 = .ok (.ifCond .gt 5, 3) := by decide +kernel
theorem dX5_floatBits_6 : decode cX5_floatBits 6 = .ok (.iconst 0, 1) := by decide +kernel
theorem dX5_floatBits_7 : decode cX5_floatBits 7 = .ok (.ireturn, 1) := by decide +kernel
theorem dX5_floatBits_8 : decode cX5_floatBits 8 = .ok (.fload_n 0, 1) := by decide +kernel
theorem dX5_floatBits_9 : decode cX5_floatBits 9 = .ok (.fstore_n 1, 1) := by decide +kernel
theorem dX5_floatBits_10 : decode cX5_floatBits 10 = .ok (.bipush 127, 2) := by decide +kernel
theorem dX5_floatBits_12 : decode cX5_floatBits 12 = .ok (.istore_n 2, 1) := by decide +kernel
theorem dX5_floatBits_13 : decode cX5_floatBits 13 = .ok (.iconst 0, 1) := by decide +kernel
theorem dX5_floatBits_14 : decode cX5_floatBits 14 = .ok (.istore_n 3, 1) := by decide +kernel
theorem dX5_floatBits_15 : decode cX5_floatBits 15 = .ok (.iload_n 3, 1) := by decide +kernel
theorem dX5_floatBits_16 : decode cX5_floatBits 16 = .ok (.sipush 2000, 3) := by decide +kernel
theorem dX5_floatBits_19 : decode cX5_floatBits 19 = .ok (.if_icmp .ge 22, 3) := by decide +kernel
theorem dX5_floatBits_22 : decode cX5_floatBits 22 = .ok (.fload_n 1, 1) := by decide +kernel
theorem dX5_floatBits_23 : decode cX5_floatBits 23 = .ok (.fconst 1, 1) := by decide +kernel
theorem dX5_floatBits_24 : decode cX5_floatBits 24 = .ok (.fcmp .g, 1) := by decide +kernel
theorem dX5_floatBits_25 : decode cX5_floatBits 25 = .ok (.ifCond .ge 16, 3) := by decide +kernel
theorem dX5_floatBits_28 : decode cX5_floatBits 28 = .ok (.fload_n 1, 1) := by decide +kernel
theorem dX5_floatBits_29 : decode cX5_floatBits 29 = .ok (.fconst 2, 1) := by decide +kernel
theorem dX5_floatBits_30 : decode cX5_floatBits 30 = .ok (.fmul, 1) := by decide +kernel
theorem dX5_floatBits_31 : decode cX5_floatBits 31 = .ok (.fstore_n 1, 1) := by decide +kernel
theorem dX5_floatBits_32 : decode cX5_floatBits 32 = .ok (.iinc 2 (-1), 3) := by decide +kernel
theorem dX5_floatBits_35 : decode cX5_floatBits 35 = .ok (.iinc 3 1, 3) := by decide +kernel
theorem dX5_floatBits_38 : decode cX5_floatBits 38 = .ok (.goto (-23), 3) := by decide +kernel
theorem dX5_floatBits_41 : decode cX5_floatBits 41 = .ok (.iconst 0, 1) := by decide +kernel
theorem dX5_floatBits_42 : decode cX5_floatBits 42 = .ok (.istore_n 3, 1) := by decide +kernel
theorem dX5_floatBits_43 : decode cX5_floatBits 43 = .ok (.iload_n 3, 1) := by decide +kernel
theorem dX5_floatBits_44 : decode cX5_floatBits 44 = .ok (.sipush 2000, 3) := by decide +kernel
theorem dX5_floatBits_47 : decode cX5_floatBits 47 = .ok (.if_icmp .ge 22, 3) := by decide +kernel
theorem dX5_floatBits_50 : decode cX5_floatBits 50 = .ok (.fload_n 1, 1) := by decide +kernel
theorem dX5_floatBits_51 : decode cX5_floatBits 51 = .ok (.fconst 2, 1) := by decide +kernel
theorem dX5_floatBits_52 : decode cX5_floatBits 52 = .ok (.fcmp .l, 1) := by decide +kernel
theorem dX5_floatBits_53 : decode cX5_floatBits 53 = .ok (.ifCond .lt 16, 3) := by decide +kernel
theorem dX5_floatBits_56 : decode cX5_floatBits 56 = .ok (.fload_n 1, 1) := by decide +kernel
theorem dX5_floatBits_57 : decode cX5_floatBits 57 = .ok (.fconst 2, 1) := by decide +kernel
theorem dX5_floatBits_58 : decode cX5_floatBits 58 = .ok (.fdiv, 1) := by decide +kernel
theorem dX5_floatBits_59 : decode cX5_floatBits 59 = .ok (.fstore_n 1, 1) := by decide +kernel
theorem dX5_floatBits_60 : decode cX5_floatBits 60 = .ok (.iinc 2 1, 3) := by decide +kernel
theorem dX5_floatBits_63 : decode cX5_floatBits 63 = .ok (.iinc 3 1, 3) := by decide +kernel
theorem dX5_floatBits_66 : decode cX5_floatBits 66 = .ok (.goto (-23), 3) := by decide +kernel
theorem dX5_floatBits_69 : decode cX5_floatBits 69 = .ok (.iload_n 2, 1) := by decide +kernel
theorem dX5_floatBits_70 : decode cX5_floatBits 70 = .ok (.bipush 23, 2) := by decide +kernel
theorem dX5_floatBits_72 : decode cX5_floatBits 72 = .ok (.ishl, 1) := by decide +kernel
theorem dX5_floatBits_73 : decode cX5_floatBits 73 = .ok (.fload_n 1, 1) := by decide +kernel
theorem dX5_floatBits_74 : decode cX5_floatBits 74 = .ok (.fconst 1, 1) := by decide +kernel
theorem dX5_floatBits_75 : decode cX5_floatBits 75 = .ok (.fsub, 1) := by decide +kernel
theorem dX5_floatBits_76 : decode cX5_floatBits 76 = .ok (.ldc_w 352, 3) := by decide +kernel
theorem dX5_floatBits_79 : decode cX5_floatBits 79 = .ok (.fmul, 1) := by decide +kernel
theorem dX5_floatBits_80 : decode cX5_floatBits 80 = .ok (.f2i, 1) := by decide +kernel
theorem dX5_floatBits_81 : decode cX5_floatBits 81 = .ok (.ior, 1) := by decide +kernel
theorem dX5_floatBits_82 : decode cX5_floatBits 82 = .ok (.ireturn, 1) := by decide +kernel
theorem dX5_moveOf_0 : decode cX5_moveOf 0 = .ok (.iload_n 1, 1) := by decide +kernel
theorem dX5_moveOf_1 : decode cX5_moveOf 1 = .ok (.ifCond .eq 9, 3) := by decide +kernel
theorem dX5_moveOf_4 : decode cX5_moveOf 4 = .ok (.iconst 5, 1) := by decide +kernel
theorem dX5_moveOf_5 : decode cX5_moveOf 5 = .ok (.iload_n 0, 1) := by decide +kernel
theorem dX5_moveOf_6 : decode cX5_moveOf 6 = .ok (.iadd, 1) := by decide +kernel
theorem dX5_moveOf_7 : decode cX5_moveOf 7 = .ok (.goto 4, 3) := by decide +kernel
theorem dX5_moveOf_10 : decode cX5_moveOf 10 = .ok (.iload_n 0, 1) := by decide +kernel
theorem dX5_moveOf_11 : decode cX5_moveOf 11 = .ok (.ireturn, 1) := by decide +kernel
theorem dX5_isBack_0 : decode cX5_isBack 0 = .ok (.iload_n 0, 1) := by decide +kernel
theorem dX5_isBack_1 : decode cX5_isBack 1 = .ok (.iconst 5, 1) := by decide +kernel
theorem dX5_isBack_2 : decode cX5_isBack 2 = .ok (.if_icmp .lt 7, 3) := by decide +kernel
theorem dX5_isBack_5 : decode cX5_isBack 5 = .ok (.iconst 1, 1) := by decide +kernel
theorem dX5_isBack_6 : decode cX5_isBack 6 = .ok (.goto 4, 3) := by decide +kernel
theorem dX5_isBack_9 : decode cX5_isBack 9 = .ok (.iconst 0, 1) := by decide +kernel
theorem dX5_isBack_10 : decode cX5_isBack 10 = .ok (.ireturn, 1) := by decide +kernel
theorem dX5_keyOf_0 : decode cX5_keyOf 0 = .ok (.iload_n 0, 1) := by decide +kernel
theorem dX5_keyOf_1 : decode cX5_keyOf 1 = .ok (.iconst 5, 1) := by decide +kernel
theorem dX5_keyOf_2 : decode cX5_keyOf 2 = .ok (.if_icmp .lt 9, 3) := by decide +kernel
theorem dX5_keyOf_5 : decode cX5_keyOf 5 = .ok (.iload_n 0, 1) := by decide +kernel
theorem dX5_keyOf_6 : decode cX5_keyOf 6 = .ok (.iconst 5, 1) := by decide +kernel
theorem dX5_keyOf_7 : decode cX5_keyOf 7 = .ok (.isub, 1) := by decide +kernel
theorem dX5_keyOf_8 : decode cX5_keyOf 8 = .ok (.goto 4, 3) := by decide +kernel
theorem dX5_keyOf_11 : decode cX5_keyOf 11 = .ok (.iload_n 0, 1) := by decide +kernel
theorem dX5_keyOf_12 : decode cX5_keyOf 12 = .ok (.ireturn, 1) := by decide +kernel
theorem dX5_opposite_0 : decode cX5_opposite 0 = .ok (.iload_n 0, 1) := by decide +kernel
theorem dX5_opposite_1 : decode cX5_opposite 1 = .ok (.invokestatic 353, 3) := by decide +kernel
theorem dX5_opposite_4 : decode cX5_opposite 4 = .ok (.iload_n 0, 1) := by decide +kernel
theorem dX5_opposite_5 : decode cX5_opposite 5 = .ok (.invokestatic 356, 3) := by decide +kernel
theorem dX5_opposite_8 : decode cX5_opposite 8 = .ok (.ifCond .ne 7, 3) := by decide +kernel
theorem dX5_opposite_11 : decode cX5_opposite 11 = .ok (.iconst 1, 1) := by decide +kernel
theorem dX5_opposite_12 : decode cX5_opposite 12 = .ok (.goto 4, 3) := by decide +kernel
theorem dX5_opposite_15 : decode cX5_opposite 15 = .ok (.iconst 0, 1) := by decide +kernel
theorem dX5_opposite_16 : decode cX5_opposite 16 = .ok (.invokestatic 248, 3) := by decide +kernel
theorem dX5_opposite_19 : decode cX5_opposite 19 = .ok (.ireturn, 1) := by decide +kernel
theorem dJxe99ae_isNaN_b9ae7_0 : decode cJxe99ae_isNaN_b9ae7 0 = .ok (.dload_n 0, 1) := by decide +kernel
theorem dJxe99ae_isNaN_b9ae7_1 : decode cJxe99ae_isNaN_b9ae7 1 = .ok (.dload_n 0, 1) := by decide +kernel
theorem dJxe99ae_isNaN_b9ae7_2 : decode cJxe99ae_isNaN_b9ae7 2 = .ok (.dcmp .l, 1) := by decide +kernel
theorem dJxe99ae_isNaN_b9ae7_3 : decode cJxe99ae_isNaN_b9ae7 3 = .ok (.ifCond .eq 7, 3) := by decide +kernel
theorem dJxe99ae_isNaN_b9ae7_6 : decode cJxe99ae_isNaN_b9ae7 6 = .ok (.iconst 1, 1) := by decide +kernel
theorem dJxe99ae_isNaN_b9ae7_7 : decode cJxe99ae_isNaN_b9ae7 7 = .ok (.goto 4, 3) := by decide +kernel
theorem dJxe99ae_isNaN_b9ae7_10 : decode cJxe99ae_isNaN_b9ae7 10 = .ok (.iconst 0, 1) := by decide +kernel
theorem dJxe99ae_isNaN_b9ae7_11 : decode cJxe99ae_isNaN_b9ae7 11 = .ok (.ireturn, 1) := by decide +kernel
theorem dJxe99ae_doubleToLongBits_ccdee_0 : decode cJxe99ae_doubleToLongBits_ccdee 0 = .ok (.dload_n 0, 1) := by decide +kernel
theorem dJxe99ae_doubleToLongBits_ccdee_1 : decode cJxe99ae_doubleToLongBits_ccdee 1 = .ok (.invokestatic 122, 3) := by decide +kernel
theorem dJxe99ae_doubleToLongBits_ccdee_4 : decode cJxe99ae_doubleToLongBits_ccdee 4 = .ok (.ifCond .ne 8, 3) := by decide +kernel
theorem dJxe99ae_doubleToLongBits_ccdee_7 : decode cJxe99ae_doubleToLongBits_ccdee 7 = .ok (.dload_n 0, 1) := by decide +kernel
theorem dJxe99ae_doubleToLongBits_ccdee_8 : decode cJxe99ae_doubleToLongBits_ccdee 8 = .ok (.invokestatic 134, 3) := by decide +kernel
theorem dJxe99ae_doubleToLongBits_ccdee_11 : decode cJxe99ae_doubleToLongBits_ccdee 11 = .ok (.lreturn, 1) := by decide +kernel
theorem dJxe99ae_doubleToLongBits_ccdee_12 : decode cJxe99ae_doubleToLongBits_ccdee 12 = .ok (.ldc2_w 137, 3) := by decide +kernel
theorem dJxe99ae_doubleToLongBits_ccdee_15 : decode cJxe99ae_doubleToLongBits_ccdee 15 = .ok (.lreturn, 1) := by decide +kernel
theorem dJxf58ca_isNaN_12338_0 : decode cJxf58ca_isNaN_12338 0 = .ok (.fload_n 0, 1) := by decide +kernel
theorem dJxf58ca_isNaN_12338_1 : decode cJxf58ca_isNaN_12338 1 = .ok (.fload_n 0, 1) := by decide +kernel
theorem dJxf58ca_isNaN_12338_2 : decode cJxf58ca_isNaN_12338 2 = .ok (.fcmp .l, 1) := by decide +kernel
theorem dJxf58ca_isNaN_12338_3 : decode cJxf58ca_isNaN_12338 3 = .ok (.ifCond .eq 7, 3) := by decide +kernel
theorem dJxf58ca_isNaN_12338_6 : decode cJxf58ca_isNaN_12338 6 = .ok (.iconst 1, 1) := by decide +kernel
theorem dJxf58ca_isNaN_12338_7 : decode cJxf58ca_isNaN_12338 7 = .ok (.goto 4, 3) := by decide +kernel
theorem dJxf58ca_isNaN_12338_10 : decode cJxf58ca_isNaN_12338 10 = .ok (.iconst 0, 1) := by decide +kernel
theorem dJxf58ca_isNaN_12338_11 : decode cJxf58ca_isNaN_12338 11 = .ok (.ireturn, 1) := by decide +kernel
theorem dJxf58ca_floatToIntBits_5c35a_0 : decode cJxf58ca_floatToIntBits_5c35a 0 = .ok (.fload_n 0, 1) := by decide +kernel
theorem dJxf58ca_floatToIntBits_5c35a_1 : decode cJxf58ca_floatToIntBits_5c35a 1 = .ok (.invokestatic 59, 3) := by decide +kernel
theorem dJxf58ca_floatToIntBits_5c35a_4 : decode cJxf58ca_floatToIntBits_5c35a 4 = .ok (.ifCond .ne 8, 3) := by decide +kernel
theorem dJxf58ca_floatToIntBits_5c35a_7 : decode cJxf58ca_floatToIntBits_5c35a 7 = .ok (.fload_n 0, 1) := by decide +kernel
theorem dJxf58ca_floatToIntBits_5c35a_8 : decode cJxf58ca_floatToIntBits_5c35a 8 = .ok (.invokestatic 74, 3) := by decide +kernel
theorem dJxf58ca_floatToIntBits_5c35a_11 : decode cJxf58ca_floatToIntBits_5c35a 11 = .ok (.ireturn, 1) := by decide +kernel
theorem dJxf58ca_floatToIntBits_5c35a_12 : decode cJxf58ca_floatToIntBits_5c35a 12 = .ok (.ldc 77, 2) := by decide +kernel
theorem dJxf58ca_floatToIntBits_5c35a_14 : decode cJxf58ca_floatToIntBits_5c35a 14 = .ok (.ireturn, 1) := by decide +kernel
theorem dJ6_bitCount_0f7a4_0 : decode cJ6_bitCount_0f7a4 0 = .ok (.iload_n 0, 1) := by decide +kernel
theorem dJ6_bitCount_0f7a4_1 : decode cJ6_bitCount_0f7a4 1 = .ok (.iload_n 0, 1) := by decide +kernel
theorem dJ6_bitCount_0f7a4_2 : decode cJ6_bitCount_0f7a4 2 = .ok (.iconst 1, 1) := by decide +kernel
theorem dJ6_bitCount_0f7a4_3 : decode cJ6_bitCount_0f7a4 3 = .ok (.iushr, 1) := by decide +kernel
theorem dJ6_bitCount_0f7a4_4 : decode cJ6_bitCount_0f7a4 4 = .ok (.ldc_w 265, 3) := by decide +kernel
theorem dJ6_bitCount_0f7a4_7 : decode cJ6_bitCount_0f7a4 7 = .ok (.iand, 1) := by decide +kernel
theorem dJ6_bitCount_0f7a4_8 : decode cJ6_bitCount_0f7a4 8 = .ok (.isub, 1) := by decide +kernel
theorem dJ6_bitCount_0f7a4_9 : decode cJ6_bitCount_0f7a4 9 = .ok (.istore_n 0, 1) := by decide +kernel
theorem dJ6_bitCount_0f7a4_10 : decode cJ6_bitCount_0f7a4 10 = .ok (.iload_n 0, 1) := by decide +kernel
theorem dJ6_bitCount_0f7a4_11 : decode cJ6_bitCount_0f7a4 11 = .ok (.ldc_w 266, 3) := by decide +kernel
theorem dJ6_bitCount_0f7a4_14 : decode cJ6_bitCount_0f7a4 14 = .ok (.iand, 1) := by decide +kernel
theorem dJ6_bitCount_0f7a4_15 : decode cJ6_bitCount_0f7a4 15 = .ok (.iload_n 0, 1) := by decide +kernel
theorem dJ6_bitCount_0f7a4_16 : decode cJ6_bitCount_0f7a4 16 = .ok (.iconst 2, 1) := by decide +kernel
theorem dJ6_bitCount_0f7a4_17 : decode cJ6_bitCount_0f7a4 17 = .ok (.iushr, 1) := by decide +kernel
theorem dJ6_bitCount_0f7a4_18 : decode cJ6_bitCount_0f7a4 18 = .ok (.ldc_w 266, 3) := by decide +kernel
theorem dJ6_bitCount_0f7a4_21 : decode cJ6_bitCount_0f7a4 21 = .ok (.iand, 1) := by decide +kernel
theorem dJ6_bitCount_0f7a4_22 : decode cJ6_bitCount_0f7a4 22 = .ok (.iadd, 1) := by decide +kernel
theorem dJ6_bitCount_0f7a4_23 : decode cJ6_bitCount_0f7a4 23 = .ok (.istore_n 0, 1) := by decide +kernel
theorem dJ6_bitCount_0f7a4_24 : decode cJ6_bitCount_0f7a4 24 = .ok (.iload_n 0, 1) := by decide +kernel
theorem dJ6_bitCount_0f7a4_25 : decode cJ6_bitCount_0f7a4 25 = .ok (.iload_n 0, 1) := by decide +kernel
theorem dJ6_bitCount_0f7a4_26 : decode cJ6_bitCount_0f7a4 26 = .ok (.iconst 4, 1) := by decide +kernel
theorem dJ6_bitCount_0f7a4_27 : decode cJ6_bitCount_0f7a4 27 = .ok (.iushr, 1) := by decide +kernel
theorem dJ6_bitCount_0f7a4_28 : decode cJ6_bitCount_0f7a4 28 = .ok (.iadd, 1) := by decide +kernel
theorem dJ6_bitCount_0f7a4_29 : decode cJ6_bitCount_0f7a4 29 = .ok (.ldc_w 267, 3) := by decide +kernel
theorem dJ6_bitCount_0f7a4_32 : decode cJ6_bitCount_0f7a4 32 = .ok (.iand, 1) := by decide +kernel
theorem dJ6_bitCount_0f7a4_33 : decode cJ6_bitCount_0f7a4 33 = .ok (.istore_n 0, 1) := by decide +kernel
theorem dJ6_bitCount_0f7a4_34 : decode cJ6_bitCount_0f7a4 34 = .ok (.iload_n 0, 1) := by decide +kernel
theorem dJ6_bitCount_0f7a4_35 : decode cJ6_bitCount_0f7a4 35 = .ok (.iload_n 0, 1) := by decide +kernel
theorem dJ6_bitCount_0f7a4_36 : decode cJ6_bitCount_0f7a4 36 = .ok (.bipush 8, 2) := by decide +kernel
theorem dJ6_bitCount_0f7a4_38 : decode cJ6_bitCount_0f7a4 38 = .ok (.iushr, 1) := by decide +kernel
theorem dJ6_bitCount_0f7a4_39 : decode cJ6_bitCount_0f7a4 39 = .ok (.iadd, 1) := by decide +kernel
theorem dJ6_bitCount_0f7a4_40 : decode cJ6_bitCount_0f7a4 40 = .ok (.istore_n 0, 1) := by decide +kernel
theorem dJ6_bitCount_0f7a4_41 : decode cJ6_bitCount_0f7a4 41 = .ok (.iload_n 0, 1) := by decide +kernel
theorem dJ6_bitCount_0f7a4_42 : decode cJ6_bitCount_0f7a4 42 = .ok (.iload_n 0, 1) := by decide +kernel
theorem dJ6_bitCount_0f7a4_43 : decode cJ6_bitCount_0f7a4 43 = .ok (.bipush 16, 2) := by decide +kernel
theorem dJ6_bitCount_0f7a4_45 : decode cJ6_bitCount_0f7a4 45 = .ok (.iushr, 1) := by decide +kernel
theorem dJ6_bitCount_0f7a4_46 : decode cJ6_bitCount_0f7a4 46 = .ok (.iadd, 1) := by decide +kernel
theorem dJ6_bitCount_0f7a4_47 : decode cJ6_bitCount_0f7a4 47 = .ok (.istore_n 0, 1) := by decide +kernel
theorem dJ6_bitCount_0f7a4_48 : decode cJ6_bitCount_0f7a4 48 = .ok (.iload_n 0, 1) := by decide +kernel
theorem dJ6_bitCount_0f7a4_49 : decode cJ6_bitCount_0f7a4 49 = .ok (.bipush 63, 2) := by decide +kernel
theorem dJ6_bitCount_0f7a4_51 : decode cJ6_bitCount_0f7a4 51 = .ok (.iand, 1) := by decide +kernel
theorem dJ6_bitCount_0f7a4_52 : decode cJ6_bitCount_0f7a4 52 = .ok (.ireturn, 1) := by decide +kernel
theorem dJ9_floorMod_7cf53_0 : decode cJ9_floorMod_7cf53 0 = .ok (.iload_n 0, 1) := by decide +kernel
theorem dJ9_floorMod_7cf53_1 : decode cJ9_floorMod_7cf53 1 = .ok (.iload_n 1, 1) := by decide +kernel
theorem dJ9_floorMod_7cf53_2 : decode cJ9_floorMod_7cf53 2 = .ok (.irem, 1) := by decide +kernel
theorem dJ9_floorMod_7cf53_3 : decode cJ9_floorMod_7cf53 3 = .ok (.istore_n 2, 1) := by decide +kernel
theorem dJ9_floorMod_7cf53_4 : decode cJ9_floorMod_7cf53 4 = .ok (.iload_n 0, 1) := by decide +kernel
theorem dJ9_floorMod_7cf53_5 : decode cJ9_floorMod_7cf53 5 = .ok (.iload_n 1, 1) := by decide +kernel
theorem dJ9_floorMod_7cf53_6 : decode cJ9_floorMod_7cf53 6 = .ok (.ixor, 1) := by decide +kernel
theorem dJ9_floorMod_7cf53_7 : decode cJ9_floorMod_7cf53 7 = .ok (.ifCond .ge 11, 3) := by decide +kernel
theorem dJ9_floorMod_7cf53_10 : decode cJ9_floorMod_7cf53 10 = .ok (.iload_n 2, 1) := by decide +kernel
theorem dJ9_floorMod_7cf53_11 : decode cJ9_floorMod_7cf53 11 = .ok (.ifCond .eq 7, 3) := by decide +kernel
theorem dJ9_floorMod_7cf53_14 : decode cJ9_floorMod_7cf53 14 = .ok (.iload_n 2, 1) := by decide +kernel
theorem dJ9_floorMod_7cf53_15 : decode cJ9_floorMod_7cf53 15 = .ok (.iload_n 1, 1) := by decide +kernel
theorem dJ9_floorMod_7cf53_16 : decode cJ9_floorMod_7cf53 16 = .ok (.iadd, 1) := by decide +kernel
theorem dJ9_floorMod_7cf53_17 : decode cJ9_floorMod_7cf53 17 = .ok (.ireturn, 1) := by decide +kernel
theorem dJ9_floorMod_7cf53_18 : decode cJ9_floorMod_7cf53 18 = .ok (.iload_n 2, 1) := by decide +kernel
theorem dJ9_floorMod_7cf53_19 : decode cJ9_floorMod_7cf53 19 = .ok (.ireturn, 1) := by decide +kernel
theorem dJ9_min_7cf53_0 : decode cJ9_min_7cf53 0 = .ok (.iload_n 0, 1) := by decide +kernel
theorem dJ9_min_7cf53_1 : decode cJ9_min_7cf53 1 = .ok (.iload_n 1, 1) := by decide +kernel
theorem dJ9_min_7cf53_2 : decode cJ9_min_7cf53 2 = .ok (.if_icmp .gt 7, 3) := by decide +kernel
theorem dJ9_min_7cf53_5 : decode cJ9_min_7cf53 5 = .ok (.iload_n 0, 1) := by decide +kernel
theorem dJ9_min_7cf53_6 : decode cJ9_min_7cf53 6 = .ok (.goto 4, 3) := by decide +kernel
theorem dJ9_min_7cf53_9 : decode cJ9_min_7cf53 9 = .ok (.iload_n 1, 1) := by decide +kernel
theorem dJ9_min_7cf53_10 : decode cJ9_min_7cf53 10 = .ok (.ireturn, 1) := by decide +kernel
end
section
theorem dX6_init_0 : decode cX6_init 0 = .ok (.aload_n 0, 1) := by decide +kernel
theorem dX6_init_1 : decode cX6_init 1 = .ok (.invokespecial 1, 3) := by decide +kernel
theorem dX6_init_4 : decode cX6_init 4 = .ok (.aload_n 0, 1) := by decide +kernel
theorem dX6_init_5 : decode cX6_init 5 = .ok (.bipush 49, 2) := by decide +kernel
theorem dX6_init_7 : decode cX6_init 7 = .ok (.newarray .int, 2) := by decide +kernel
theorem dX6_init_9 : decode cX6_init 9 = .ok (.putfield 7, 3) := by decide +kernel
theorem dX6_init_12 : decode cX6_init 12 = .ok (.aload_n 0, 1) := by decide +kernel
theorem dX6_init_13 : decode cX6_init 13 = .ok (.bipush 49, 2) := by decide +kernel
theorem dX6_init_15 : decode cX6_init 15 = .ok (.newarray .int, 2) := by decide +kernel
theorem dX6_init_17 : decode cX6_init 17 = .ok (.putfield 13, 3) := by decide +kernel
theorem dX6_init_20 : decode cX6_init 20 = .ok (.aload_n 0, 1) := by decide +kernel
theorem dX6_init_21 : decode cX6_init 21 = .ok (.sipush 294, 3) := by decide +kernel
theorem dX6_init_24 : decode cX6_init 24 = .ok (.newarray .int, 2) := by decide +kernel
theorem dX6_init_26 : decode cX6_init 26 = .ok (.putfield 16, 3) := by decide +kernel
theorem dX6_init_29 : decode cX6_init 29 = .ok (.aload_n 0, 1) := by decide +kernel
theorem dX6_init_30 : decode cX6_init 30 = .ok (.bipush 49, 2) := by decide +kernel
theorem dX6_init_32 : decode cX6_init 32 = .ok (.newarray .int, 2) := by decide +kernel
theorem dX6_init_34 : decode cX6_init 34 = .ok (.putfield 19, 3) := by decide +kernel
theorem dX6_init_37 : decode cX6_init 37 = .ok (.aload_n 0, 1) := by decide +kernel
theorem dX6_init_38 : decode cX6_init 38 = .ok (.bipush 60, 2) := by decide +kernel
theorem dX6_init_40 : decode cX6_init 40 = .ok (.newarray .int, 2) := by decide +kernel
theorem dX6_init_42 : decode cX6_init 42 = .ok (.putfield 22, 3) := by decide +kernel
theorem dX6_init_45 : decode cX6_init 45 = .ok (.aload_n 0, 1) := by decide +kernel
theorem dX6_init_46 : decode cX6_init 46 = .ok (.bipush 12, 2) := by decide +kernel
theorem dX6_init_48 : decode cX6_init 48 = .ok (.newarray .int, 2) := by decide +kernel
theorem dX6_init_50 : decode cX6_init 50 = .ok (.putfield 25, 3) := by decide +kernel
theorem dX6_init_53 : decode cX6_init 53 = .ok (.aload_n 0, 1) := by decide +kernel
theorem dX6_init_54 : decode cX6_init 54 = .ok (.sipush 500, 3) := by decide +kernel
theorem dX6_init_57 : decode cX6_init 57 = .ok (.newarray .int, 2) := by decide +kernel
theorem dX6_init_59 : decode cX6_init 59 = .ok (.putfield 28, 3) := by decide +kernel
theorem dX6_init_62 : decode cX6_init 62 = .ok (.aload_n 0, 1) := by decide +kernel
theorem dX6_init_63 : decode cX6_init 63 = .ok (.iconst 4, 1) := by decide +kernel
theorem dX6_init_64 : decode cX6_init 64 = .ok (.newarray .int, 2) := by decide +kernel
theorem dX6_init_66 : decode cX6_init 66 = .ok (.putfield 31, 3) := by decide +kernel
theorem dX6_init_69 : decode cX6_init 69 = .ok (.aload_n 0, 1) := by decide +kernel
theorem dX6_init_70 : decode cX6_init 70 = .ok (.iconst 4, 1) := by decide +kernel
theorem dX6_init_71 : decode cX6_init 71 = .ok (.newarray .int, 2) := by decide +kernel
theorem dX6_init_73 : decode cX6_init 73 = .ok (.putfield 34, 3) := by decide +kernel
theorem dX6_init_76 : decode cX6_init 76 = .ok (.aload_n 0, 1) := by decide +kernel
theorem dX6_init_77 : decode cX6_init 77 = .ok (.iconst 4, 1) := by decide +kernel
theorem dX6_init_78 : decode cX6_init 78 = .ok (.newarray .int, 2) := by decide +kernel
theorem dX6_init_80 : decode cX6_init 80 = .ok (.putfield 37, 3) := by decide +kernel
theorem dX6_init_83 : decode cX6_init 83 = .ok (.aload_n 0, 1) := by decide +kernel
theorem dX6_init_84 : decode cX6_init 84 = .ok (.iconst 4, 1) := by decide +kernel
theorem dX6_init_85 : decode cX6_init 85 = .ok (.newarray .int, 2) := by decide +kernel
theorem dX6_init_87 : decode cX6_init 87 = .ok (.putfield 40, 3) := by decide +kernel
theorem dX6_init_90 : decode cX6_init 90 = .ok (.aload_n 0, 1) := by decide +kernel
theorem dX6_init_91 : decode cX6_init 91 = .ok (.iconst 4, 1) := by decide +kernel
theorem dX6_init_92 : decode cX6_init 92 = .ok (.newarray .int, 2) := by decide +kernel
theorem dX6_init_94 : decode cX6_init 94 = .ok (.putfield 43, 3) := by decide +kernel
theorem dX6_init_97 : decode cX6_init 97 = .ok (.iconst 0, 1) := by decide +kernel
theorem dX6_init_98 : decode cX6_init 98 = .ok (.istore_n 1, 1) := by decide +kernel
theorem dX6_init_99 : decode cX6_init 99 = .ok (.iload_n 1, 1) := by decide +kernel
theorem dX6_init_100 : decode cX6_init 100 = .ok (.bipush 6, 2) := by decide +kernel
theorem dX6_init_102 : decode cX6_init 102 = .ok (.if_icmp .ge 18, 3) := by decide +kernel
theorem dX6_init_105 : decode cX6_init 105 = .ok (.aload_n 0, 1) := by decide +kernel
theorem dX6_init_106 : decode cX6_init 106 = .ok (.getfield 7, 3) := by decide +kernel
theorem dX6_init_109 : decode cX6_init 109 = .ok (.iconst 0, 1) := by decide +kernel
theorem dX6_init_110 : decode cX6_init 110 = .ok (.iload_n 1, 1) := by decide +kernel
theorem dX6_init_111 : decode cX6_init 111 = .ok (.iadd, 1) := by decide +kernel
theorem dX6_init_112 : decode cX6_init 112 = .ok (.iload_n 1, 1) := by decide +kernel
theorem dX6_init_113 : decode cX6_init 113 = .ok (.iastore, 1) := by decide +kernel
theorem dX6_init_114 : decode cX6_init 114 = .ok (.iinc 1 1, 3) := by decide +kernel
theorem dX6_init_117 : decode cX6_init 117 = .ok (.goto (-18), 3) := by decide +kernel
theorem dX6_init_120 : decode cX6_init 120 = .ok (.iconst 0, 1) := by decide +kernel
theorem dX6_init_121 : decode cX6_init 121 = .ok (.istore_n 1, 1) := by decide +kernel
theorem dX6_init_122 : decode cX6_init 122 = .ok (.iload_n 1, 1) := by decide +kernel
theorem dX6_init_123 : decode cX6_init 123 = .ok (.iconst 5, 1) := by decide +kernel
theorem dX6_init_124 : decode cX6_init 124 = .ok (.if_icmp .ge 53, 3) := by decide +kernel
theorem dX6_init_127 : decode cX6_init 127 = .ok (.aload_n 0, 1) := by decide +kernel
theorem dX6_init_128 : decode cX6_init 128 = .ok (.getfield 7, 3) := by decide +kernel
theorem dX6_init_131 : decode cX6_init 131 = .ok (.bipush 18, 2) := by decide +kernel
theorem dX6_init_133 : decode cX6_init 133 = .ok (.iload_n 1, 1) := by decide +kernel
theorem dX6_init_134 : decode cX6_init 134 = .ok (.iadd, 1) := by decide +kernel
theorem dX6_init_135 : decode cX6_init 135 = .ok (.iconst 1, 1) := by decide +kernel
theorem dX6_init_136 : decode cX6_init 136 = .ok (.iload_n 1, 1) := by decide +kernel
theorem dX6_init_137 : decode cX6_init 137 = .ok (.ishl, 1) := by decide +kernel
theorem dX6_init_138 : decode cX6_init 138 = .ok (.iconst 1, 1) := by decide +kernel
theorem dX6_init_139 : decode cX6_init 139 = .ok (.iload_n 1, 1) := by decide +kernel
theorem dX6_init_140 : decode cX6_init 140 = .ok (.iconst 1, 1) := by decide +kernel
theorem dX6_init_141 : decode cX6_init 141 = .ok (.iadd, 1) := by decide +kernel
theorem dX6_init_142 : decode cX6_init 142 = .ok (.bipush 6, 2) := by decide +kernel
theorem dX6_init_144 : decode cX6_init 144 = .ok (.irem, 1) := by decide +kernel
theorem dX6_init_145 : decode cX6_init 145 = .ok (.ishl, 1) := by decide +kernel
theorem dX6_init_146 : decode cX6_init 146 = .ok (.ior, 1) := by decide +kernel
theorem dX6_init_147 : decode cX6_init 147 = .ok (.iconst 1, 1) := by decide +kernel
theorem dX6_init_148 : decode cX6_init 148 = .ok (.iload_n 1, 1) := by decide +kernel
theorem dX6_init_149 : decode cX6_init 149 = .ok (.iconst 3, 1) := by decide +kernel
theorem dX6_init_150 : decode cX6_init 150 = .ok (.iadd, 1) := by decide +kernel
theorem dX6_init_151 : decode cX6_init 151 = .ok (.bipush 6, 2) := by decide +kernel
theorem dX6_init_153 : decode cX6_init 153 = .ok (.irem, 1) := by decide +kernel
theorem dX6_init_154 : decode cX6_init 154 = .ok (.ishl, 1) := by decide +kernel
theorem dX6_init_155 : decode cX6_init 155 = .ok (.ior, 1) := by decide +kernel
theorem dX6_init_156 : decode cX6_init 156 = .ok (.iastore, 1) := by decide +kernel
theorem dX6_init_157 : decode cX6_init 157 = .ok (.aload_n 0, 1) := by decide +kernel
theorem dX6_init_158 : decode cX6_init 158 = .ok (.getfield 7, 3) := by decide +kernel
theorem dX6_init_161 : decode cX6_init 161 = .ok (.bipush 23, 2) := by decide +kernel
theorem dX6_init_163 : decode cX6_init 163 = .ok (.iload_n 1, 1) := by decide +kernel
theorem dX6_init_164 : decode cX6_init 164 = .ok (.iadd, 1) := by decide +kernel
theorem dX6_init_165 : decode cX6_init 165 = .ok (.iconst 1, 1) := by decide +kernel
theorem dX6_init_166 : decode cX6_init 166 = .ok (.iload_n 1, 1) := by decide +kernel
theorem dX6_init_167 : decode cX6_init 167 = .ok (.iconst 4, 1) := by decide +kernel
theorem dX6_init_168 : decode cX6_init 168 = .ok (.irem, 1) := by decide +kernel
theorem dX6_init_169 : decode cX6_init 169 = .ok (.iadd, 1) := by decide +kernel
theorem dX6_init_170 : decode cX6_init 170 = .ok (.iastore, 1) := by decide +kernel
theorem dX6_init_171 : decode cX6_init 171 = .ok (.iinc 1 1, 3) := by decide +kernel
theorem dX6_init_174 : decode cX6_init 174 = .ok (.goto (-52), 3) := by decide +kernel
theorem dX6_init_177 : decode cX6_init 177 = .ok (.return_, 1) := by decide +kernel
theorem dX6_thrown_0 : decode cX6_thrown 0 = .ok (.aload_n 0, 1) := by decide +kernel
theorem dX6_thrown_1 : decode cX6_thrown 1 = .ok (.getfield 46, 3) := by decide +kernel
theorem dX6_thrown_4 : decode cX6_thrown 4 = .ok (.ireturn, 1) := by decide +kernel
theorem dX6_in_0 : decode cX6_in 0 = .ok (.iload_n 0, 1) := by decide +kernel
theorem dX6_in_1 : decode cX6_in 1 = .ok (.iload_n 1, 1) := by decide +kernel
theorem dX6_in_2 : decode cX6_in 2 = .ok (.if_icmp .lt 12, 3) := by decide +kernel
theorem dX6_in_5 : decode cX6_in 5 = .ok (.iload_n 0, 1) := by decide +kernel
theorem dX6_in_6 : decode cX6_in 6 = .ok (.iload_n 2, 1) := by decide +kernel
theorem dX6_in_7 : decode cX6_in 7 = .ok (.if_icmp .gt 7, 3) := by decide +kernel
theorem dX6_in_10 : decode cX6_in 10 = .ok (.iconst 1, 1) := by decide +kernel
theorem dX6_in_11 : decode cX6_in 11 = .ok (.goto 4, 3) := by decide +kernel
theorem dX6_in_14 : decode cX6_in 14 = .ok (.iconst 0, 1) := by decide +kernel
theorem dX6_in_15 : decode cX6_in 15 = .ok (.ireturn, 1) := by decide +kernel
theorem dX6_isKey_0 : decode cX6_isKey 0 = .ok (.iload_n 0, 1) := by decide +kernel
theorem dX6_isKey_1 : decode cX6_isKey 1 = .ok (.iconst 0, 1) := by decide +kernel
theorem dX6_isKey_2 : decode cX6_isKey 2 = .ok (.iconst 4, 1) := by decide +kernel
theorem dX6_isKey_3 : decode cX6_isKey 3 = .ok (.invokestatic 50, 3) := by decide +kernel
theorem dX6_isKey_6 : decode cX6_isKey 6 = .ok (.ireturn, 1) := by decide +kernel
theorem dX6_isPlace_0 : decode cX6_isPlace 0 = .ok (.iload_n 0, 1) := by decide +kernel
theorem dX6_isPlace_1 : decode cX6_isPlace 1 = .ok (.iconst 0, 1) := by decide +kernel
theorem dX6_isPlace_2 : decode cX6_isPlace 2 = .ok (.iconst 5, 1) := by decide +kernel
theorem dX6_isPlace_3 : decode cX6_isPlace 3 = .ok (.invokestatic 50, 3) := by decide +kernel
theorem dX6_isPlace_6 : decode cX6_isPlace 6 = .ok (.ireturn, 1) := by decide +kernel
theorem dX6_has_0 : decode cX6_has 0 = .ok (.aload_n 0, 1) := by decide +kernel
theorem dX6_has_1 : decode cX6_has 1 = .ok (.getfield 7, 3) := by decide +kernel
theorem dX6_has_4 : decode cX6_has 4 = .ok (.bipush 18, 2) := by decide +kernel
theorem dX6_has_6 : decode cX6_has 6 = .ok (.iload_n 1, 1) := by decide +kernel
theorem dX6_has_7 : decode cX6_has 7 = .ok (.iadd, 1) := by decide +kernel
theorem dX6_has_8 : decode cX6_has 8 = .ok (.iaload, 1) := by decide +kernel
theorem dX6_has_9 : decode cX6_has 9 = .ok (.iload_n 2, 1) := by decide +kernel
theorem dX6_has_10 : decode cX6_has 10 = .ok (.ishr, 1) := by decide +kernel
theorem dX6_has_11 : decode cX6_has 11 = .ok (.iconst 1, 1) := by decide +kernel
theorem dX6_has_12 : decode cX6_has 12 = .ok (.iand, 1) := by decide +kernel
theorem dX6_has_13 : decode cX6_has 13 = .ok (.iconst 1, 1) := by decide +kernel
theorem dX6_has_14 : decode cX6_has 14 = .ok (.if_icmp .ne 7, 3) := by decide +kernel
theorem dX6_has_17 : decode cX6_has 17 = .ok (.iconst 1, 1) := by decide +kernel
theorem dX6_has_18 : decode cX6_has 18 = .ok (.goto 4, 3) := by decide +kernel
theorem dX6_has_21 : decode cX6_has 21 = .ok (.iconst 0, 1) := by decide +kernel
theorem dX6_has_22 : decode cX6_has 22 = .ok (.ireturn, 1) := by decide +kernel
theorem dX6_ones_0 : decode cX6_ones 0 = .ok (.iconst 0, 1) := by decide +kernel
theorem dX6_ones_1 : decode cX6_ones 1 = .ok (.istore_n 1, 1) := by decide +kernel
theorem dX6_ones_2 : decode cX6_ones 2 = .ok (.iconst 0, 1) := by decide +kernel
theorem dX6_ones_3 : decode cX6_ones 3 = .ok (.istore_n 2, 1) := by decide +kernel
theorem dX6_ones_4 : decode cX6_ones 4 = .ok (.iload_n 2, 1) := by decide +kernel
theorem dX6_ones_5 : decode cX6_ones 5 = .ok (.bipush 6, 2) := by decide +kernel
theorem dX6_ones_7 : decode cX6_ones 7 = .ok (.if_icmp .ge 17, 3) := by decide +kernel
theorem dX6_ones_10 : decode cX6_ones 10 = .ok (.iload_n 1, 1) := by decide +kernel
theorem dX6_ones_11 : decode cX6_ones 11 = .ok (.iload_n 0, 1) := by decide +kernel
theorem dX6_ones_12 : decode cX6_ones 12 = .ok (.iload_n 2, 1) := by decide +kernel
theorem dX6_ones_13 : decode cX6_ones 13 = .ok (.ishr, 1) := by decide +kernel
theorem dX6_ones_14 : decode cX6_ones 14 = .ok (.iconst 1, 1) := by decide +kernel
theorem dX6_ones_15 : decode cX6_ones 15 = .ok (.iand, 1) := by decide +kernel
theorem dX6_ones_16 : decode cX6_ones 16 = .ok (.iadd, 1) := by decide +kernel
theorem dX6_ones_17 : decode cX6_ones 17 = .ok (.istore_n 1, 1) := by decide +kernel
theorem dX6_ones_18 : decode cX6_ones 18 = .ok (.iinc 2 1, 3) := by decide +kernel
theorem dX6_ones_21 : decode cX6_ones 21 = .ok (.goto (-17), 3) := by decide +kernel
theorem dX6_ones_24 : decode cX6_ones 24 = .ok (.iload_n 1, 1) := by decide +kernel
theorem dX6_ones_25 : decode cX6_ones 25 = .ok (.ireturn, 1) := by decide +kernel
theorem dX6_record_0 : decode cX6_record 0 = .ok (.aload_n 0, 1) := by decide +kernel
theorem dX6_record_1 : decode cX6_record 1 = .ok (.getfield 54, 3) := by decide +kernel
theorem dX6_record_4 : decode cX6_record 4 = .ok (.bipush 6, 2) := by decide +kernel
theorem dX6_record_6 : decode cX6_record 6 = .ok (.if_icmp .ne 43, 3) := by decide +kernel
theorem dX6_record_9 : decode cX6_record 9 = .ok (.iconst 0, 1) := by decide +kernel
theorem dX6_record_10 : decode cX6_record 10 = .ok (.istore_n 1, 1) := by decide +kernel
theorem dX6_record_11 : decode cX6_record 11 = .ok (.iload_n 1, 1) := by decide +kernel
theorem dX6_record_12 : decode cX6_record 12 = .ok (.sipush 245, 3) := by decide +kernel
theorem dX6_record_15 : decode cX6_record 15 = .ok (.if_icmp .ge 24, 3) := by decide +kernel
theorem dX6_record_18 : decode cX6_record 18 = .ok (.aload_n 0, 1) := by decide +kernel
theorem dX6_record_19 : decode cX6_record 19 = .ok (.getfield 16, 3) := by decide +kernel
theorem dX6_record_22 : decode cX6_record 22 = .ok (.iload_n 1, 1) := by decide +kernel
theorem dX6_record_23 : decode cX6_record 23 = .ok (.aload_n 0, 1) := by decide +kernel
theorem dX6_record_24 : decode cX6_record 24 = .ok (.getfield 16, 3) := by decide +kernel
theorem dX6_record_27 : decode cX6_record 27 = .ok (.bipush 49, 2) := by decide +kernel
theorem dX6_record_29 : decode cX6_record 29 = .ok (.iload_n 1, 1) := by decide +kernel
theorem dX6_record_30 : decode cX6_record 30 = .ok (.iadd, 1) := by decide +kernel
theorem dX6_record_31 : decode cX6_record 31 = .ok (.iaload, 1) := by decide +kernel
theorem dX6_record_32 : decode cX6_record 32 = .ok (.iastore, 1) := by decide +kernel
theorem dX6_record_33 : decode cX6_record 33 = .ok (.iinc 1 1, 3) := by decide +kernel
theorem dX6_record_36 : decode cX6_record 36 = .ok (.goto (-25), 3) := by decide +kernel
theorem dX6_record_39 : decode cX6_record 39 = .ok (.aload_n 0, 1) := by decide +kernel
theorem dX6_record_40 : decode cX6_record 40 = .ok (.dup, 1) := by decide +kernel
theorem dX6_record_41 : decode cX6_record 41 = .ok (.getfield 54, 3) := by decide +kernel
theorem dX6_record_44 : decode cX6_record 44 = .ok (.iconst 1, 1) := by decide +kernel
theorem dX6_record_45 : decode cX6_record 45 = .ok (.isub, 1) := by decide +kernel
theorem dX6_record_46 : decode cX6_record 46 = .ok (.putfield 54, 3) := by decide +kernel
theorem dX6_record_49 : decode cX6_record 49 = .ok (.iconst 0, 1) := by decide +kernel
theorem dX6_record_50 : decode cX6_record 50 = .ok (.istore_n 1, 1) := by decide +kernel
theorem dX6_record_51 : decode cX6_record 51 = .ok (.iload_n 1, 1) := by decide +kernel
theorem dX6_record_52 : decode cX6_record 52 = .ok (.bipush 49, 2) := by decide +kernel
theorem dX6_record_54 : decode cX6_record 54 = .ok (.if_icmp .ge 29, 3) := by decide +kernel
theorem dX6_record_57 : decode cX6_record 57 = .ok (.aload_n 0, 1) := by decide +kernel
theorem dX6_record_58 : decode cX6_record 58 = .ok (.getfield 16, 3) := by decide +kernel
theorem dX6_record_61 : decode cX6_record 61 = .ok (.bipush 49, 2) := by decide +kernel
theorem dX6_record_63 : decode cX6_record 63 = .ok (.aload_n 0, 1) := by decide +kernel
theorem dX6_record_64 : decode cX6_record 64 = .ok (.getfield 54, 3) := by decide +kernel
theorem dX6_record_67 : decode cX6_record 67 = .ok (.imul, 1) := by decide +kernel
theorem dX6_record_68 : decode cX6_record 68 = .ok (.iload_n 1, 1) := by decide +kernel
theorem dX6_record_69 : decode cX6_record 69 = .ok (.iadd, 1) := by decide +kernel
theorem dX6_record_70 : decode cX6_record 70 = .ok (.aload_n 0, 1) := by decide +kernel
theorem dX6_record_71 : decode cX6_record 71 = .ok (.getfield 7, 3) := by decide +kernel
theorem dX6_record_74 : decode cX6_record 74 = .ok (.iload_n 1, 1) := by decide +kernel
theorem dX6_record_75 : decode cX6_record 75 = .ok (.iaload, 1) := by decide +kernel
theorem dX6_record_76 : decode cX6_record 76 = .ok (.iastore, 1) := by decide +kernel
theorem dX6_record_77 : decode cX6_record 77 = .ok (.iinc 1 1, 3) := by decide +kernel
theorem dX6_record_80 : decode cX6_record 80 = .ok (.goto (-29), 3) := by decide +kernel
theorem dX6_record_83 : decode cX6_record 83 = .ok (.aload_n 0, 1) := by decide +kernel
theorem dX6_record_84 : decode cX6_record 84 = .ok (.dup, 1) := by decide +kernel
theorem dX6_record_85 : decode cX6_record 85 = .ok (.getfield 54, 3) := by decide +kernel
theorem dX6_record_88 : decode cX6_record 88 = .ok (.iconst 1, 1) := by decide +kernel
theorem dX6_record_89 : decode cX6_record 89 = .ok (.iadd, 1) := by decide +kernel
theorem dX6_record_90 : decode cX6_record 90 = .ok (.putfield 54, 3) := by decide +kernel
theorem dX6_record_93 : decode cX6_record 93 = .ok (.return_, 1) := by decide +kernel
theorem dX6_undo_0 : decode cX6_undo 0 = .ok (.aload_n 0, 1) := by decide +kernel
theorem dX6_undo_1 : decode cX6_undo 1 = .ok (.aload_n 0, 1) := by decide +kernel
theorem dX6_undo_2 : decode cX6_undo 2 = .ok (.getfield 54, 3) := by decide +kernel
theorem dX6_undo_5 : decode cX6_undo 5 = .ok (.ifCond .ne 7, 3) := by decide +kernel
theorem dX6_undo_8 : decode cX6_undo 8 = .ok (.iconst 1, 1) := by decide +kernel
theorem dX6_undo_9 : decode cX6_undo 9 = .ok (.goto 4, 3) := by decide +kernel
theorem dX6_undo_12 : decode cX6_undo 12 = .ok (.iconst 0, 1) := by decide +kernel
theorem dX6_undo_13 : decode cX6_undo 13 = .ok (.putfield 46, 3) := by decide +kernel
theorem dX6_undo_16 : decode cX6_undo 16 = .ok (.aload_n 0, 1) := by decide +kernel
theorem dX6_undo_17 : decode cX6_undo 17 = .ok (.getfield 46, 3) := by decide +kernel
theorem dX6_undo_20 : decode cX6_undo 20 = .ok (.ifCond .le 5, 3) := by decide +kernel
theorem dX6_undo_23 : decode cX6_undo 23 = .ok (.iconst 0, 1) := by decide +kernel
theorem dX6_undo_24 : decode cX6_undo 24 = .ok (.ireturn, 1) := by decide +kernel
theorem dX6_undo_25 : decode cX6_undo 25 = .ok (.aload_n 0, 1) := by decide +kernel
theorem dX6_undo_26 : decode cX6_undo 26 = .ok (.dup, 1) := by decide +kernel
theorem dX6_undo_27 : decode cX6_undo 27 = .ok (.getfield 54, 3) := by decide +kernel
theorem dX6_undo_30 : decode cX6_undo 30 = .ok (.iconst 1, 1) := by decide +kernel
theorem dX6_undo_31 : decode cX6_undo 31 = .ok (.isub, 1) := by decide +kernel
theorem dX6_undo_32 : decode cX6_undo 32 = .ok (.putfield 54, 3) := by decide +kernel
theorem dX6_undo_35 : decode cX6_undo 35 = .ok (.iconst 0, 1) := by decide +kernel
theorem dX6_undo_36 : decode cX6_undo 36 = .ok (.istore_n 1, 1) := by decide +kernel
theorem dX6_undo_37 : decode cX6_undo 37 = .ok (.iload_n 1, 1) := by decide +kernel
theorem dX6_undo_38 : decode cX6_undo 38 = .ok (.bipush 49, 2) := by decide +kernel
theorem dX6_undo_40 : decode cX6_undo 40 = .ok (.if_icmp .ge 29, 3) := by decide +kernel
theorem dX6_undo_43 : decode cX6_undo 43 = .ok (.aload_n 0, 1) := by decide +kernel
theorem dX6_undo_44 : decode cX6_undo 44 = .ok (.getfield 7, 3) := by decide +kernel
theorem dX6_undo_47 : decode cX6_undo 47 = .ok (.iload_n 1, 1) := by decide +kernel
theorem dX6_undo_48 : decode cX6_undo 48 = .ok (.aload_n 0, 1) := by decide +kernel
theorem dX6_undo_49 : decode cX6_undo 49 = .ok (.getfield 16, 3) := by decide +kernel
theorem dX6_undo_52 : decode cX6_undo 52 = .ok (.bipush 49, 2) := by decide +kernel
theorem dX6_undo_54 : decode cX6_undo 54 = .ok (.aload_n 0, 1) := by decide +kernel
theorem dX6_undo_55 : decode cX6_undo 55 = .ok (.getfield 54, 3) := by decide +kernel
theorem dX6_undo_58 : decode cX6_undo 58 = .ok (.imul, 1) := by decide +kernel
theorem dX6_undo_59 : decode cX6_undo 59 = .ok (.iload_n 1, 1) := by decide +kernel
theorem dX6_undo_60 : decode cX6_undo 60 = .ok (.iadd, 1) := by decide +kernel
theorem dX6_undo_61 : decode cX6_undo 61 = .ok (.iaload, 1) := by decide +kernel
theorem dX6_undo_62 : decode cX6_undo 62 = .ok (.iastore, 1) := by decide +kernel
theorem dX6_undo_63 : decode cX6_undo 63 = .ok (.iinc 1 1, 3) := by decide +kernel
theorem dX6_undo_66 : decode cX6_undo 66 = .ok (.goto (-29), 3) := by decide +kernel
theorem dX6_undo_69 : decode cX6_undo 69 = .ok (.aload_n 0, 1) := by decide +kernel
theorem dX6_undo_70 : decode cX6_undo 70 = .ok (.getfield 54, 3) := by decide +kernel
theorem dX6_undo_73 : decode cX6_undo 73 = .ok (.ireturn, 1) := by decide +kernel
theorem dX6_keep_0 : decode cX6_keep 0 = .ok (.aload_n 0, 1) := by decide +kernel
theorem dX6_keep_1 : decode cX6_keep 1 = .ok (.iconst 0, 1) := by decide +kernel
theorem dX6_keep_2 : decode cX6_keep 2 = .ok (.putfield 46, 3) := by decide +kernel
theorem dX6_keep_5 : decode cX6_keep 5 = .ok (.iconst 0, 1) := by decide +kernel
theorem dX6_keep_6 : decode cX6_keep 6 = .ok (.istore_n 1, 1) := by decide +kernel
theorem dX6_keep_7 : decode cX6_keep 7 = .ok (.iload_n 1, 1) := by decide +kernel
theorem dX6_keep_8 : decode cX6_keep 8 = .ok (.bipush 49, 2) := by decide +kernel
theorem dX6_keep_10 : decode cX6_keep 10 = .ok (.if_icmp .ge 21, 3) := by decide +kernel
theorem dX6_keep_13 : decode cX6_keep 13 = .ok (.aload_n 0, 1) := by decide +kernel
theorem dX6_keep_14 : decode cX6_keep 14 = .ok (.getfield 19, 3) := by decide +kernel
theorem dX6_keep_17 : decode cX6_keep 17 = .ok (.iload_n 1, 1) := by decide +kernel
theorem dX6_keep_18 : decode cX6_keep 18 = .ok (.aload_n 0, 1) := by decide +kernel
theorem dX6_keep_19 : decode cX6_keep 19 = .ok (.getfield 7, 3) := by decide +kernel
theorem dX6_keep_22 : decode cX6_keep 22 = .ok (.iload_n 1, 1) := by decide +kernel
theorem dX6_keep_23 : decode cX6_keep 23 = .ok (.iaload, 1) := by decide +kernel
theorem dX6_keep_24 : decode cX6_keep 24 = .ok (.iastore, 1) := by decide +kernel
theorem dX6_keep_25 : decode cX6_keep 25 = .ok (.iinc 1 1, 3) := by decide +kernel
theorem dX6_keep_28 : decode cX6_keep 28 = .ok (.goto (-21), 3) := by decide +kernel
theorem dX6_keep_31 : decode cX6_keep 31 = .ok (.aload_n 0, 1) := by decide +kernel
theorem dX6_keep_32 : decode cX6_keep 32 = .ok (.iconst 1, 1) := by decide +kernel
theorem dX6_keep_33 : decode cX6_keep 33 = .ok (.putfield 57, 3) := by decide +kernel
theorem dX6_keep_36 : decode cX6_keep 36 = .ok (.aload_n 0, 1) := by decide +kernel
theorem dX6_keep_37 : decode cX6_keep 37 = .ok (.getfield 7, 3) := by decide +kernel
theorem dX6_keep_40 : decode cX6_keep 40 = .ok (.bipush 33, 2) := by decide +kernel
theorem dX6_keep_42 : decode cX6_keep 42 = .ok (.iaload, 1) := by decide +kernel
theorem dX6_keep_43 : decode cX6_keep 43 = .ok (.ireturn, 1) := by decide +kernel
theorem dX6_goBack_0 : decode cX6_goBack 0 = .ok (.aload_n 0, 1) := by decide +kernel
theorem dX6_goBack_1 : decode cX6_goBack 1 = .ok (.aload_n 0, 1) := by decide +kernel
theorem dX6_goBack_2 : decode cX6_goBack 2 = .ok (.getfield 57, 3) := by decide +kernel
theorem dX6_goBack_5 : decode cX6_goBack 5 = .ok (.ifCond .eq 7, 3) := by decide +kernel
theorem dX6_goBack_8 : decode cX6_goBack 8 = .ok (.iconst 0, 1) := by decide +kernel
theorem dX6_goBack_9 : decode cX6_goBack 9 = .ok (.goto 4, 3) := by decide +kernel
theorem dX6_goBack_12 : decode cX6_goBack 12 = .ok (.iconst 1, 1) := by decide +kernel
theorem dX6_goBack_13 : decode cX6_goBack 13 = .ok (.putfield 46, 3) := by decide +kernel
theorem dX6_goBack_16 : decode cX6_goBack 16 = .ok (.aload_n 0, 1) := by decide +kernel
theorem dX6_goBack_17 : decode cX6_goBack 17 = .ok (.getfield 46, 3) := by decide +kernel
theorem dX6_goBack_20 : decode cX6_goBack 20 = .ok (.ifCond .le 5, 3) := by decide +kernel
theorem dX6_goBack_23 : decode cX6_goBack 23 = .ok (.iconst 0, 1) := by decide +kernel
theorem dX6_goBack_24 : decode cX6_goBack 24 = .ok (.ireturn, 1) := by decide +kernel
theorem dX6_goBack_25 : decode cX6_goBack 25 = .ok (.aload_n 0, 1) := by decide +kernel
theorem dX6_goBack_26 : decode cX6_goBack 26 = .ok (.invokevirtual 61, 3) := by decide +kernel
theorem dX6_goBack_29 : decode cX6_goBack 29 = .ok (.iconst 0, 1) := by decide +kernel
theorem dX6_goBack_30 : decode cX6_goBack 30 = .ok (.istore_n 1, 1) := by decide +kernel
theorem dX6_goBack_31 : decode cX6_goBack 31 = .ok (.iload_n 1, 1) := by decide +kernel
theorem dX6_goBack_32 : decode cX6_goBack 32 = .ok (.bipush 49, 2) := by decide +kernel
theorem dX6_goBack_34 : decode cX6_goBack 34 = .ok (.if_icmp .ge 21, 3) := by decide +kernel
theorem dX6_goBack_37 : decode cX6_goBack 37 = .ok (.aload_n 0, 1) := by decide +kernel
theorem dX6_goBack_38 : decode cX6_goBack 38 = .ok (.getfield 7, 3) := by decide +kernel
theorem dX6_goBack_41 : decode cX6_goBack 41 = .ok (.iload_n 1, 1) := by decide +kernel
theorem dX6_goBack_42 : decode cX6_goBack 42 = .ok (.aload_n 0, 1) := by decide +kernel
theorem dX6_goBack_43 : decode cX6_goBack 43 = .ok (.getfield 19, 3) := by decide +kernel
theorem dX6_goBack_46 : decode cX6_goBack 46 = .ok (.iload_n 1, 1) := by decide +kernel
theorem dX6_goBack_47 : decode cX6_goBack 47 = .ok (.iaload, 1) := by decide +kernel
theorem dX6_goBack_48 : decode cX6_goBack 48 = .ok (.iastore, 1) := by decide +kernel
theorem dX6_goBack_49 : decode cX6_goBack 49 = .ok (.iinc 1 1, 3) := by decide +kernel
theorem dX6_goBack_52 : decode cX6_goBack 52 = .ok (.goto (-21), 3) := by decide +kernel
theorem dX6_goBack_55 : decode cX6_goBack 55 = .ok (.aload_n 0, 1) := by decide +kernel
theorem dX6_goBack_56 : decode cX6_goBack 56 = .ok (.getfield 7, 3) := by decide +kernel
theorem dX6_goBack_59 : decode cX6_goBack 59 = .ok (.bipush 33, 2) := by decide +kernel
theorem dX6_goBack_61 : decode cX6_goBack 61 = .ok (.iaload, 1) := by decide +kernel
theorem dX6_goBack_62 : decode cX6_goBack 62 = .ok (.ireturn, 1) := by decide +kernel
theorem dX6_putAside_0 : decode cX6_putAside 0 = .ok (.iconst 0, 1) := by decide +kernel
theorem dX6_putAside_1 : decode cX6_putAside 1 = .ok (.istore_n 1, 1) := by decide +kernel
theorem dX6_putAside_2 : decode cX6_putAside 2 = .ok (.iload_n 1, 1) := by decide +kernel
theorem dX6_putAside_3 : decode cX6_putAside 3 = .ok (.bipush 49, 2) := by decide +kernel
theorem dX6_putAside_5 : decode cX6_putAside 5 = .ok (.if_icmp .ge 21, 3) := by decide +kernel
theorem dX6_putAside_8 : decode cX6_putAside 8 = .ok (.aload_n 0, 1) := by decide +kernel
theorem dX6_putAside_9 : decode cX6_putAside 9 = .ok (.getfield 13, 3) := by decide +kernel
theorem dX6_putAside_12 : decode cX6_putAside 12 = .ok (.iload_n 1, 1) := by decide +kernel
theorem dX6_putAside_13 : decode cX6_putAside 13 = .ok (.aload_n 0, 1) := by decide +kernel
theorem dX6_putAside_14 : decode cX6_putAside 14 = .ok (.getfield 7, 3) := by decide +kernel
theorem dX6_putAside_17 : decode cX6_putAside 17 = .ok (.iload_n 1, 1) := by decide +kernel
theorem dX6_putAside_18 : decode cX6_putAside 18 = .ok (.iaload, 1) := by decide +kernel
theorem dX6_putAside_19 : decode cX6_putAside 19 = .ok (.iastore, 1) := by decide +kernel
theorem dX6_putAside_20 : decode cX6_putAside 20 = .ok (.iinc 1 1, 3) := by decide +kernel
theorem dX6_putAside_23 : decode cX6_putAside 23 = .ok (.goto (-21), 3) := by decide +kernel
theorem dX6_putAside_26 : decode cX6_putAside 26 = .ok (.return_, 1) := by decide +kernel
theorem dX6_putBack_0 : decode cX6_putBack 0 = .ok (.iconst 0, 1) := by decide +kernel
theorem dX6_putBack_1 : decode cX6_putBack 1 = .ok (.istore_n 1, 1) := by decide +kernel
theorem dX6_putBack_2 : decode cX6_putBack 2 = .ok (.iload_n 1, 1) := by decide +kernel
theorem dX6_putBack_3 : decode cX6_putBack 3 = .ok (.bipush 49, 2) := by decide +kernel
theorem dX6_putBack_5 : decode cX6_putBack 5 = .ok (.if_icmp .ge 21, 3) := by decide +kernel
theorem dX6_putBack_8 : decode cX6_putBack 8 = .ok (.aload_n 0, 1) := by decide +kernel
theorem dX6_putBack_9 : decode cX6_putBack 9 = .ok (.getfield 7, 3) := by decide +kernel
theorem dX6_putBack_12 : decode cX6_putBack 12 = .ok (.iload_n 1, 1) := by decide +kernel
theorem dX6_putBack_13 : decode cX6_putBack 13 = .ok (.aload_n 0, 1) := by decide +kernel
theorem dX6_putBack_14 : decode cX6_putBack 14 = .ok (.getfield 13, 3) := by decide +kernel
theorem dX6_putBack_17 : decode cX6_putBack 17 = .ok (.iload_n 1, 1) := by decide +kernel
theorem dX6_putBack_18 : decode cX6_putBack 18 = .ok (.iaload, 1) := by decide +kernel
theorem dX6_putBack_19 : decode cX6_putBack 19 = .ok (.iastore, 1) := by decide +kernel
theorem dX6_putBack_20 : decode cX6_putBack 20 = .ok (.iinc 1 1, 3) := by decide +kernel
theorem dX6_putBack_23 : decode cX6_putBack 23 = .ok (.goto (-21), 3) := by decide +kernel
theorem dX6_putBack_26 : decode cX6_putBack 26 = .ok (.return_, 1) := by decide +kernel
theorem dX6_toFirst_0 : decode cX6_toFirst 0 = .ok (.iconst 0, 1) := by decide +kernel
theorem dX6_toFirst_1 : decode cX6_toFirst 1 = .ok (.istore_n 1, 1) := by decide +kernel
theorem dX6_toFirst_2 : decode cX6_toFirst 2 = .ok (.iload_n 1, 1) := by decide +kernel
theorem dX6_toFirst_3 : decode cX6_toFirst 3 = .ok (.bipush 6, 2) := by decide +kernel
theorem dX6_toFirst_5 : decode cX6_toFirst 5 = .ok (.if_icmp .ge 28, 3) := by decide +kernel
theorem dX6_toFirst_8 : decode cX6_toFirst 8 = .ok (.aload_n 0, 1) := by decide +kernel
theorem dX6_toFirst_9 : decode cX6_toFirst 9 = .ok (.getfield 7, 3) := by decide +kernel
theorem dX6_toFirst_12 : decode cX6_toFirst 12 = .ok (.iconst 0, 1) := by decide +kernel
theorem dX6_toFirst_13 : decode cX6_toFirst 13 = .ok (.iload_n 1, 1) := by decide +kernel
theorem dX6_toFirst_14 : decode cX6_toFirst 14 = .ok (.iadd, 1) := by decide +kernel
theorem dX6_toFirst_15 : decode cX6_toFirst 15 = .ok (.iload_n 1, 1) := by decide +kernel
theorem dX6_toFirst_16 : decode cX6_toFirst 16 = .ok (.iastore, 1) := by decide +kernel
theorem dX6_toFirst_17 : decode cX6_toFirst 17 = .ok (.aload_n 0, 1) := by decide +kernel
theorem dX6_toFirst_18 : decode cX6_toFirst 18 = .ok (.getfield 7, 3) := by decide +kernel
theorem dX6_toFirst_21 : decode cX6_toFirst 21 = .ok (.bipush 6, 2) := by decide +kernel
theorem dX6_toFirst_23 : decode cX6_toFirst 23 = .ok (.iload_n 1, 1) := by decide +kernel
theorem dX6_toFirst_24 : decode cX6_toFirst 24 = .ok (.iadd, 1) := by decide +kernel
theorem dX6_toFirst_25 : decode cX6_toFirst 25 = .ok (.iconst 0, 1) := by decide +kernel
theorem dX6_toFirst_26 : decode cX6_toFirst 26 = .ok (.iastore, 1) := by decide +kernel
theorem dX6_toFirst_27 : decode cX6_toFirst 27 = .ok (.iinc 1 1, 3) := by decide +kernel
theorem dX6_toFirst_30 : decode cX6_toFirst 30 = .ok (.goto (-28), 3) := by decide +kernel
theorem dX6_toFirst_33 : decode cX6_toFirst 33 = .ok (.return_, 1) := by decide +kernel
theorem dX6_next_0 : decode cX6_next 0 = .ok (.iload_n 2, 1) := by decide +kernel
theorem dX6_next_1 : decode cX6_next 1 = .ok (.iconst 1, 1) := by decide +kernel
theorem dX6_next_2 : decode cX6_next 2 = .ok (.iadd, 1) := by decide +kernel
theorem dX6_next_3 : decode cX6_next 3 = .ok (.bipush 6, 2) := by decide +kernel
theorem dX6_next_5 : decode cX6_next 5 = .ok (.irem, 1) := by decide +kernel
theorem dX6_next_6 : decode cX6_next 6 = .ok (.istore_n 3, 1) := by decide +kernel
theorem dX6_next_7 : decode cX6_next 7 = .ok (.aload_n 0, 1) := by decide +kernel
theorem dX6_next_8 : decode cX6_next 8 = .ok (.iload_n 1, 1) := by decide +kernel
theorem dX6_next_9 : decode cX6_next 9 = .ok (.iload_n 3, 1) := by decide +kernel
theorem dX6_next_10 : decode cX6_next 10 = .ok (.invokevirtual 64, 3) := by decide +kernel
theorem dX6_next_13 : decode cX6_next 13 = .ok (.ifCond .ne 13, 3) := by decide +kernel
theorem dX6_next_16 : decode cX6_next 16 = .ok (.iload_n 3, 1) := by decide +kernel
theorem dX6_next_17 : decode cX6_next 17 = .ok (.iconst 1, 1) := by decide +kernel
theorem dX6_next_18 : decode cX6_next 18 = .ok (.iadd, 1) := by decide +kernel
theorem dX6_next_19 : decode cX6_next 19 = .ok (.bipush 6, 2) := by decide +kernel
theorem dX6_next_21 : decode cX6_next 21 = .ok (.irem, 1) := by decide +kernel
theorem dX6_next_22 : decode cX6_next 22 = .ok (.istore_n 3, 1) := by decide +kernel
theorem dX6_next_23 : decode cX6_next 23 = .ok (.goto (-16), 3) := by decide +kernel
theorem dX6_next_26 : decode cX6_next 26 = .ok (.iload_n 3, 1) := by decide +kernel
theorem dX6_next_27 : decode cX6_next 27 = .ok (.ireturn, 1) := by decide +kernel
theorem dX6_doTurn_0 : decode cX6_doTurn 0 = .ok (.iload_n 1, 1) := by decide +kernel
theorem dX6_doTurn_1 : decode cX6_doTurn 1 = .ok (.iconst 5, 1) := by decide +kernel
theorem dX6_doTurn_2 : decode cX6_doTurn 2 = .ok (.irem, 1) := by decide +kernel
theorem dX6_doTurn_3 : decode cX6_doTurn 3 = .ok (.istore_n 2, 1) := by decide +kernel
theorem dX6_doTurn_4 : decode cX6_doTurn 4 = .ok (.iconst 0, 1) := by decide +kernel
theorem dX6_doTurn_5 : decode cX6_doTurn 5 = .ok (.istore_n 3, 1) := by decide +kernel
theorem dX6_doTurn_6 : decode cX6_doTurn 6 = .ok (.iload_n 3, 1) := by decide +kernel
theorem dX6_doTurn_7 : decode cX6_doTurn 7 = .ok (.bipush 12, 2) := by decide +kernel
theorem dX6_doTurn_9 : decode cX6_doTurn 9 = .ok (.if_icmp .ge 21, 3) := by decide +kernel
theorem dX6_doTurn_12 : decode cX6_doTurn 12 = .ok (.aload_n 0, 1) := by decide +kernel
theorem dX6_doTurn_13 : decode cX6_doTurn 13 = .ok (.getfield 25, 3) := by decide +kernel
theorem dX6_doTurn_16 : decode cX6_doTurn 16 = .ok (.iload_n 3, 1) := by decide +kernel
theorem dX6_doTurn_17 : decode cX6_doTurn 17 = .ok (.aload_n 0, 1) := by decide +kernel
theorem dX6_doTurn_18 : decode cX6_doTurn 18 = .ok (.getfield 7, 3) := by decide +kernel
theorem dX6_doTurn_21 : decode cX6_doTurn 21 = .ok (.iload_n 3, 1) := by decide +kernel
theorem dX6_doTurn_22 : decode cX6_doTurn 22 = .ok (.iaload, 1) := by decide +kernel
theorem dX6_doTurn_23 : decode cX6_doTurn 23 = .ok (.iastore, 1) := by decide +kernel
theorem dX6_doTurn_24 : decode cX6_doTurn 24 = .ok (.iinc 3 1, 3) := by decide +kernel
theorem dX6_doTurn_27 : decode cX6_doTurn 27 = .ok (.goto (-21), 3) := by decide +kernel
theorem dX6_doTurn_30 : decode cX6_doTurn 30 = .ok (.iconst 0, 1) := by decide +kernel
theorem dX6_doTurn_31 : decode cX6_doTurn 31 = .ok (.istore_n 3, 1) := by decide +kernel
theorem dX6_doTurn_32 : decode cX6_doTurn 32 = .ok (.iload_n 3, 1) := by decide +kernel
theorem dX6_doTurn_33 : decode cX6_doTurn 33 = .ok (.bipush 6, 2) := by decide +kernel
theorem dX6_doTurn_35 : decode cX6_doTurn 35 = .ok (.if_icmp .ge 125, 3) := by decide +kernel
theorem dX6_doTurn_38 : decode cX6_doTurn 38 = .ok (.aload_n 0, 1) := by decide +kernel
theorem dX6_doTurn_39 : decode cX6_doTurn 39 = .ok (.iload_n 2, 1) := by decide +kernel
theorem dX6_doTurn_40 : decode cX6_doTurn 40 = .ok (.iload_n 3, 1) := by decide +kernel
theorem dX6_doTurn_41 : decode cX6_doTurn 41 = .ok (.invokevirtual 64, 3) := by decide +kernel
theorem dX6_doTurn_44 : decode cX6_doTurn 44 = .ok (.ifCond .eq 110, 3) := by decide +kernel
theorem dX6_doTurn_47 : decode cX6_doTurn 47 = .ok (.aload_n 0, 1) := by decide +kernel
theorem dX6_doTurn_48 : decode cX6_doTurn 48 = .ok (.iload_n 2, 1) := by decide +kernel
theorem dX6_doTurn_49 : decode cX6_doTurn 49 = .ok (.iload_n 3, 1) := by decide +kernel
theorem dX6_doTurn_50 : decode cX6_doTurn 50 = .ok (.invokevirtual 68, 3) := by decide +kernel
theorem dX6_doTurn_53 : decode cX6_doTurn 53 = .ok (.istore 4, 2) := by decide +kernel
theorem dX6_doTurn_55 : decode cX6_doTurn 55 = .ok (.iload_n 1, 1) := by decide +kernel
theorem dX6_doTurn_56 : decode cX6_doTurn 56 = .ok (.iconst 5, 1) := by decide +kernel
theorem dX6_doTurn_57 : decode cX6_doTurn 57 = .ok (.if_icmp .ge 7, 3) := by decide +kernel
theorem dX6_doTurn_60 : decode cX6_doTurn 60 = .ok (.iload_n 3, 1) := by decide +kernel
theorem dX6_doTurn_61 : decode cX6_doTurn 61 = .ok (.goto 5, 3) := by decide +kernel
theorem dX6_doTurn_64 : decode cX6_doTurn 64 = .ok (.iload 4, 2) := by decide +kernel
theorem dX6_doTurn_66 : decode cX6_doTurn 66 = .ok (.istore 5, 2) := by decide +kernel
theorem dX6_doTurn_68 : decode cX6_doTurn 68 = .ok (.iload_n 1, 1) := by decide +kernel
theorem dX6_doTurn_69 : decode cX6_doTurn 69 = .ok (.iconst 5, 1) := by decide +kernel
theorem dX6_doTurn_70 : decode cX6_doTurn 70 = .ok (.if_icmp .ge 8, 3) := by decide +kernel
theorem dX6_doTurn_73 : decode cX6_doTurn 73 = .ok (.iload 4, 2) := by decide +kernel
theorem dX6_doTurn_75 : decode cX6_doTurn 75 = .ok (.goto 4, 3) := by decide +kernel
theorem dX6_doTurn_78 : decode cX6_doTurn 78 = .ok (.iload_n 3, 1) := by decide +kernel
theorem dX6_doTurn_79 : decode cX6_doTurn 79 = .ok (.istore 6, 2) := by decide +kernel
theorem dX6_doTurn_81 : decode cX6_doTurn 81 = .ok (.iload_n 1, 1) := by decide +kernel
theorem dX6_doTurn_82 : decode cX6_doTurn 82 = .ok (.iconst 5, 1) := by decide +kernel
theorem dX6_doTurn_83 : decode cX6_doTurn 83 = .ok (.if_icmp .ge 15, 3) := by decide +kernel
theorem dX6_doTurn_86 : decode cX6_doTurn 86 = .ok (.aload_n 0, 1) := by decide +kernel
theorem dX6_doTurn_87 : decode cX6_doTurn 87 = .ok (.getfield 7, 3) := by decide +kernel
theorem dX6_doTurn_90 : decode cX6_doTurn 90 = .ok (.bipush 23, 2) := by decide +kernel
theorem dX6_doTurn_92 : decode cX6_doTurn 92 = .ok (.iload_n 2, 1) := by decide +kernel
theorem dX6_doTurn_93 : decode cX6_doTurn 93 = .ok (.iadd, 1) := by decide +kernel
theorem dX6_doTurn_94 : decode cX6_doTurn 94 = .ok (.iaload, 1) := by decide +kernel
theorem dX6_doTurn_95 : decode cX6_doTurn 95 = .ok (.goto 14, 3) := by decide +kernel
theorem dX6_doTurn_98 : decode cX6_doTurn 98 = .ok (.iconst 5, 1) := by decide +kernel
theorem dX6_doTurn_99 : decode cX6_doTurn 99 = .ok (.aload_n 0, 1) := by decide +kernel
theorem dX6_doTurn_100 : decode cX6_doTurn 100 = .ok (.getfield 7, 3) := by decide +kernel
theorem dX6_doTurn_103 : decode cX6_doTurn 103 = .ok (.bipush 23, 2) := by decide +kernel
theorem dX6_doTurn_105 : decode cX6_doTurn 105 = .ok (.iload_n 2, 1) := by decide +kernel
theorem dX6_doTurn_106 : decode cX6_doTurn 106 = .ok (.iadd, 1) := by decide +kernel
theorem dX6_doTurn_107 : decode cX6_doTurn 107 = .ok (.iaload, 1) := by decide +kernel
theorem dX6_doTurn_108 : decode cX6_doTurn 108 = .ok (.isub, 1) := by decide +kernel
theorem dX6_doTurn_109 : decode cX6_doTurn 109 = .ok (.istore 7, 2) := by decide +kernel
theorem dX6_doTurn_111 : decode cX6_doTurn 111 = .ok (.aload_n 0, 1) := by decide +kernel
theorem dX6_doTurn_112 : decode cX6_doTurn 112 = .ok (.getfield 7, 3) := by decide +kernel
theorem dX6_doTurn_115 : decode cX6_doTurn 115 = .ok (.iconst 0, 1) := by decide +kernel
theorem dX6_doTurn_116 : decode cX6_doTurn 116 = .ok (.iload 6, 2) := by decide +kernel
theorem dX6_doTurn_118 : decode cX6_doTurn 118 = .ok (.iadd, 1) := by decide +kernel
theorem dX6_doTurn_119 : decode cX6_doTurn 119 = .ok (.aload_n 0, 1) := by decide +kernel
theorem dX6_doTurn_120 : decode cX6_doTurn 120 = .ok (.getfield 25, 3) := by decide +kernel
theorem dX6_doTurn_123 : decode cX6_doTurn 123 = .ok (.iconst 0, 1) := by decide +kernel
theorem dX6_doTurn_124 : decode cX6_doTurn 124 = .ok (.iload 5, 2) := by decide +kernel
theorem dX6_doTurn_126 : decode cX6_doTurn 126 = .ok (.iadd, 1) := by decide +kernel
theorem dX6_doTurn_127 : decode cX6_doTurn 127 = .ok (.iaload, 1) := by decide +kernel
theorem dX6_doTurn_128 : decode cX6_doTurn 128 = .ok (.iastore, 1) := by decide +kernel
theorem dX6_doTurn_129 : decode cX6_doTurn 129 = .ok (.aload_n 0, 1) := by decide +kernel
theorem dX6_doTurn_130 : decode cX6_doTurn 130 = .ok (.getfield 7, 3) := by decide +kernel
theorem dX6_doTurn_133 : decode cX6_doTurn 133 = .ok (.bipush 6, 2) := by decide +kernel
theorem dX6_doTurn_135 : decode cX6_doTurn 135 = .ok (.iload 6, 2) := by decide +kernel
theorem dX6_doTurn_137 : decode cX6_doTurn 137 = .ok (.iadd, 1) := by decide +kernel
theorem dX6_doTurn_138 : decode cX6_doTurn 138 = .ok (.aload_n 0, 1) := by decide +kernel
theorem dX6_doTurn_139 : decode cX6_doTurn 139 = .ok (.getfield 25, 3) := by decide +kernel
theorem dX6_doTurn_142 : decode cX6_doTurn 142 = .ok (.bipush 6, 2) := by decide +kernel
theorem dX6_doTurn_144 : decode cX6_doTurn 144 = .ok (.iload 5, 2) := by decide +kernel
theorem dX6_doTurn_146 : decode cX6_doTurn 146 = .ok (.iadd, 1) := by decide +kernel
theorem dX6_doTurn_147 : decode cX6_doTurn 147 = .ok (.iaload, 1) := by decide +kernel
theorem dX6_doTurn_148 : decode cX6_doTurn 148 = .ok (.iload 7, 2) := by decide +kernel
theorem dX6_doTurn_150 : decode cX6_doTurn 150 = .ok (.iadd, 1) := by decide +kernel
theorem dX6_doTurn_151 : decode cX6_doTurn 151 = .ok (.iconst 5, 1) := by decide +kernel
theorem dX6_doTurn_152 : decode cX6_doTurn 152 = .ok (.irem, 1) := by decide +kernel
theorem dX6_doTurn_153 : decode cX6_doTurn 153 = .ok (.iastore, 1) := by decide +kernel
theorem dX6_doTurn_154 : decode cX6_doTurn 154 = .ok (.iinc 3 1, 3) := by decide +kernel
theorem dX6_doTurn_157 : decode cX6_doTurn 157 = .ok (.goto (-125), 3) := by decide +kernel
theorem dX6_doTurn_160 : decode cX6_doTurn 160 = .ok (.return_, 1) := by decide +kernel
theorem dX6_isStuck_0 : decode cX6_isStuck 0 = .ok (.iconst 0, 1) := by decide +kernel
theorem dX6_isStuck_1 : decode cX6_isStuck 1 = .ok (.istore_n 2, 1) := by decide +kernel
theorem dX6_isStuck_2 : decode cX6_isStuck 2 = .ok (.iconst 0, 1) := by decide +kernel
theorem dX6_isStuck_3 : decode cX6_isStuck 3 = .ok (.istore_n 3, 1) := by decide +kernel
theorem dX6_isStuck_4 : decode cX6_isStuck 4 = .ok (.iload_n 3, 1) := by decide +kernel
theorem dX6_isStuck_5 : decode cX6_isStuck 5 = .ok (.bipush 6, 2) := by decide +kernel
theorem dX6_isStuck_7 : decode cX6_isStuck 7 = .ok (.if_icmp .ge 41, 3) := by decide +kernel
theorem dX6_isStuck_10 : decode cX6_isStuck 10 = .ok (.iload_n 2, 1) := by decide +kernel
theorem dX6_isStuck_11 : decode cX6_isStuck 11 = .ok (.ifCond .ne 25, 3) := by decide +kernel
theorem dX6_isStuck_14 : decode cX6_isStuck 14 = .ok (.aload_n 0, 1) := by decide +kernel
theorem dX6_isStuck_15 : decode cX6_isStuck 15 = .ok (.iload_n 1, 1) := by decide +kernel
theorem dX6_isStuck_16 : decode cX6_isStuck 16 = .ok (.iload_n 3, 1) := by decide +kernel
theorem dX6_isStuck_17 : decode cX6_isStuck 17 = .ok (.invokevirtual 64, 3) := by decide +kernel
theorem dX6_isStuck_20 : decode cX6_isStuck 20 = .ok (.ifCond .eq 20, 3) := by decide +kernel
theorem dX6_isStuck_23 : decode cX6_isStuck 23 = .ok (.aload_n 0, 1) := by decide +kernel
theorem dX6_isStuck_24 : decode cX6_isStuck 24 = .ok (.getfield 7, 3) := by decide +kernel
theorem dX6_isStuck_27 : decode cX6_isStuck 27 = .ok (.bipush 12, 2) := by decide +kernel
theorem dX6_isStuck_29 : decode cX6_isStuck 29 = .ok (.iload_n 3, 1) := by decide +kernel
theorem dX6_isStuck_30 : decode cX6_isStuck 30 = .ok (.iadd, 1) := by decide +kernel
theorem dX6_isStuck_31 : decode cX6_isStuck 31 = .ok (.iaload, 1) := by decide +kernel
theorem dX6_isStuck_32 : decode cX6_isStuck 32 = .ok (.iconst 1, 1) := by decide +kernel
theorem dX6_isStuck_33 : decode cX6_isStuck 33 = .ok (.if_icmp .ne 7, 3) := by decide +kernel
theorem dX6_isStuck_36 : decode cX6_isStuck 36 = .ok (.iconst 1, 1) := by decide +kernel
theorem dX6_isStuck_37 : decode cX6_isStuck 37 = .ok (.goto 4, 3) := by decide +kernel
theorem dX6_isStuck_40 : decode cX6_isStuck 40 = .ok (.iconst 0, 1) := by decide +kernel
theorem dX6_isStuck_41 : decode cX6_isStuck 41 = .ok (.istore_n 2, 1) := by decide +kernel
theorem dX6_isStuck_42 : decode cX6_isStuck 42 = .ok (.iinc 3 1, 3) := by decide +kernel
theorem dX6_isStuck_45 : decode cX6_isStuck 45 = .ok (.goto (-41), 3) := by decide +kernel
theorem dX6_isStuck_48 : decode cX6_isStuck 48 = .ok (.iload_n 2, 1) := by decide +kernel
theorem dX6_isStuck_49 : decode cX6_isStuck 49 = .ok (.ireturn, 1) := by decide +kernel
theorem dX6_isRight_0 : decode cX6_isRight 0 = .ok (.aload_n 0, 1) := by decide +kernel
theorem dX6_isRight_1 : decode cX6_isRight 1 = .ok (.getfield 7, 3) := by decide +kernel
theorem dX6_isRight_4 : decode cX6_isRight 4 = .ok (.bipush 36, 2) := by decide +kernel
theorem dX6_isRight_6 : decode cX6_isRight 6 = .ok (.iaload, 1) := by decide +kernel
theorem dX6_isRight_7 : decode cX6_isRight 7 = .ok (.iconst 1, 1) := by decide +kernel
theorem dX6_isRight_8 : decode cX6_isRight 8 = .ok (.if_icmp .ne 48, 3) := by decide +kernel
theorem dX6_isRight_11 : decode cX6_isRight 11 = .ok (.aload_n 0, 1) := by decide +kernel
theorem dX6_isRight_12 : decode cX6_isRight 12 = .ok (.getfield 7, 3) := by decide +kernel
theorem dX6_isRight_15 : decode cX6_isRight 15 = .ok (.iconst 0, 1) := by decide +kernel
theorem dX6_isRight_16 : decode cX6_isRight 16 = .ok (.iload_n 1, 1) := by decide +kernel
theorem dX6_isRight_17 : decode cX6_isRight 17 = .ok (.iadd, 1) := by decide +kernel
theorem dX6_isRight_18 : decode cX6_isRight 18 = .ok (.iaload, 1) := by decide +kernel
theorem dX6_isRight_19 : decode cX6_isRight 19 = .ok (.aload_n 0, 1) := by decide +kernel
theorem dX6_isRight_20 : decode cX6_isRight 20 = .ok (.getfield 7, 3) := by decide +kernel
theorem dX6_isRight_23 : decode cX6_isRight 23 = .ok (.bipush 37, 2) := by decide +kernel
theorem dX6_isRight_25 : decode cX6_isRight 25 = .ok (.iload_n 1, 1) := by decide +kernel
theorem dX6_isRight_26 : decode cX6_isRight 26 = .ok (.iadd, 1) := by decide +kernel
theorem dX6_isRight_27 : decode cX6_isRight 27 = .ok (.iaload, 1) := by decide +kernel
theorem dX6_isRight_28 : decode cX6_isRight 28 = .ok (.if_icmp .ne 28, 3) := by decide +kernel
theorem dX6_isRight_31 : decode cX6_isRight 31 = .ok (.aload_n 0, 1) := by decide +kernel
theorem dX6_isRight_32 : decode cX6_isRight 32 = .ok (.getfield 7, 3) := by decide +kernel
theorem dX6_isRight_35 : decode cX6_isRight 35 = .ok (.bipush 6, 2) := by decide +kernel
theorem dX6_isRight_37 : decode cX6_isRight 37 = .ok (.iload_n 1, 1) := by decide +kernel
theorem dX6_isRight_38 : decode cX6_isRight 38 = .ok (.iadd, 1) := by decide +kernel
theorem dX6_isRight_39 : decode cX6_isRight 39 = .ok (.iaload, 1) := by decide +kernel
theorem dX6_isRight_40 : decode cX6_isRight 40 = .ok (.aload_n 0, 1) := by decide +kernel
theorem dX6_isRight_41 : decode cX6_isRight 41 = .ok (.getfield 7, 3) := by decide +kernel
theorem dX6_isRight_44 : decode cX6_isRight 44 = .ok (.bipush 43, 2) := by decide +kernel
theorem dX6_isRight_46 : decode cX6_isRight 46 = .ok (.iload_n 1, 1) := by decide +kernel
theorem dX6_isRight_47 : decode cX6_isRight 47 = .ok (.iadd, 1) := by decide +kernel
theorem dX6_isRight_48 : decode cX6_isRight 48 = .ok (.iaload, 1) := by decide +kernel
theorem dX6_isRight_49 : decode cX6_isRight 49 = .ok (.if_icmp .ne 7, 3) := by decide +kernel
theorem dX6_isRight_52 : decode cX6_isRight 52 = .ok (.iconst 1, 1) := by decide +kernel
theorem dX6_isRight_53 : decode cX6_isRight 53 = .ok (.goto 4, 3) := by decide +kernel
theorem dX6_isRight_56 : decode cX6_isRight 56 = .ok (.iconst 0, 1) := by decide +kernel
theorem dX6_isRight_57 : decode cX6_isRight 57 = .ok (.ireturn, 1) := by decide +kernel
theorem dX6_right_0 : decode cX6_right 0 = .ok (.iconst 0, 1) := by decide +kernel
theorem dX6_right_1 : decode cX6_right 1 = .ok (.istore_n 1, 1) := by decide +kernel
theorem dX6_right_2 : decode cX6_right 2 = .ok (.iconst 0, 1) := by decide +kernel
theorem dX6_right_3 : decode cX6_right 3 = .ok (.istore_n 2, 1) := by decide +kernel
theorem dX6_right_4 : decode cX6_right 4 = .ok (.iload_n 2, 1) := by decide +kernel
theorem dX6_right_5 : decode cX6_right 5 = .ok (.bipush 6, 2) := by decide +kernel
theorem dX6_right_7 : decode cX6_right 7 = .ok (.if_icmp .ge 25, 3) := by decide +kernel
theorem dX6_right_10 : decode cX6_right 10 = .ok (.iload_n 1, 1) := by decide +kernel
theorem dX6_right_11 : decode cX6_right 11 = .ok (.aload_n 0, 1) := by decide +kernel
theorem dX6_right_12 : decode cX6_right 12 = .ok (.iload_n 2, 1) := by decide +kernel
theorem dX6_right_13 : decode cX6_right 13 = .ok (.invokevirtual 72, 3) := by decide +kernel
theorem dX6_right_16 : decode cX6_right 16 = .ok (.ifCond .eq 7, 3) := by decide +kernel
theorem dX6_right_19 : decode cX6_right 19 = .ok (.iconst 1, 1) := by decide +kernel
theorem dX6_right_20 : decode cX6_right 20 = .ok (.goto 4, 3) := by decide +kernel
theorem dX6_right_23 : decode cX6_right 23 = .ok (.iconst 0, 1) := by decide +kernel
theorem dX6_right_24 : decode cX6_right 24 = .ok (.iadd, 1) := by decide +kernel
theorem dX6_right_25 : decode cX6_right 25 = .ok (.istore_n 1, 1) := by decide +kernel
theorem dX6_right_26 : decode cX6_right 26 = .ok (.iinc 2 1, 3) := by decide +kernel
theorem dX6_right_29 : decode cX6_right 29 = .ok (.goto (-25), 3) := by decide +kernel
theorem dX6_right_32 : decode cX6_right 32 = .ok (.iload_n 1, 1) := by decide +kernel
theorem dX6_right_33 : decode cX6_right 33 = .ok (.ireturn, 1) := by decide +kernel
theorem dX6_opens_0 : decode cX6_opens 0 = .ok (.aload_n 0, 1) := by decide +kernel
theorem dX6_opens_1 : decode cX6_opens 1 = .ok (.invokevirtual 76, 3) := by decide +kernel
theorem dX6_opens_4 : decode cX6_opens 4 = .ok (.bipush 6, 2) := by decide +kernel
theorem dX6_opens_6 : decode cX6_opens 6 = .ok (.if_icmp .ne 7, 3) := by decide +kernel
theorem dX6_opens_9 : decode cX6_opens 9 = .ok (.iconst 1, 1) := by decide +kernel
theorem dX6_opens_10 : decode cX6_opens 10 = .ok (.goto 4, 3) := by decide +kernel
theorem dX6_opens_13 : decode cX6_opens 13 = .ok (.iconst 0, 1) := by decide +kernel
theorem dX6_opens_14 : decode cX6_opens 14 = .ok (.ireturn, 1) := by decide +kernel
theorem dX6_countTurn_0 : decode cX6_countTurn 0 = .ok (.iload_n 1, 1) := by decide +kernel
theorem dX6_countTurn_1 : decode cX6_countTurn 1 = .ok (.iconst 5, 1) := by decide +kernel
theorem dX6_countTurn_2 : decode cX6_countTurn 2 = .ok (.irem, 1) := by decide +kernel
theorem dX6_countTurn_3 : decode cX6_countTurn 3 = .ok (.istore_n 2, 1) := by decide +kernel
theorem dX6_countTurn_4 : decode cX6_countTurn 4 = .ok (.aload_n 0, 1) := by decide +kernel
theorem dX6_countTurn_5 : decode cX6_countTurn 5 = .ok (.invokevirtual 80, 3) := by decide +kernel
theorem dX6_countTurn_8 : decode cX6_countTurn 8 = .ok (.istore_n 3, 1) := by decide +kernel
theorem dX6_countTurn_9 : decode cX6_countTurn 9 = .ok (.aload_n 0, 1) := by decide +kernel
theorem dX6_countTurn_10 : decode cX6_countTurn 10 = .ok (.iload_n 1, 1) := by decide +kernel
theorem dX6_countTurn_11 : decode cX6_countTurn 11 = .ok (.invokevirtual 84, 3) := by decide +kernel
theorem dX6_countTurn_14 : decode cX6_countTurn 14 = .ok (.aload_n 0, 1) := by decide +kernel
theorem dX6_countTurn_15 : decode cX6_countTurn 15 = .ok (.getfield 7, 3) := by decide +kernel
theorem dX6_countTurn_18 : decode cX6_countTurn 18 = .ok (.bipush 33, 2) := by decide +kernel
theorem dX6_countTurn_20 : decode cX6_countTurn 20 = .ok (.dup2, 1) := by decide +kernel
theorem dX6_countTurn_21 : decode cX6_countTurn 21 = .ok (.iaload, 1) := by decide +kernel
theorem dX6_countTurn_22 : decode cX6_countTurn 22 = .ok (.iconst 1, 1) := by decide +kernel
theorem dX6_countTurn_23 : decode cX6_countTurn 23 = .ok (.iadd, 1) := by decide +kernel
theorem dX6_countTurn_24 : decode cX6_countTurn 24 = .ok (.iastore, 1) := by decide +kernel
theorem dX6_countTurn_25 : decode cX6_countTurn 25 = .ok (.aload_n 0, 1) := by decide +kernel
theorem dX6_countTurn_26 : decode cX6_countTurn 26 = .ok (.getfield 7, 3) := by decide +kernel
theorem dX6_countTurn_29 : decode cX6_countTurn 29 = .ok (.bipush 28, 2) := by decide +kernel
theorem dX6_countTurn_31 : decode cX6_countTurn 31 = .ok (.iload_n 2, 1) := by decide +kernel
theorem dX6_countTurn_32 : decode cX6_countTurn 32 = .ok (.iadd, 1) := by decide +kernel
theorem dX6_countTurn_33 : decode cX6_countTurn 33 = .ok (.dup2, 1) := by decide +kernel
theorem dX6_countTurn_34 : decode cX6_countTurn 34 = .ok (.iaload, 1) := by decide +kernel
theorem dX6_countTurn_35 : decode cX6_countTurn 35 = .ok (.iconst 1, 1) := by decide +kernel
theorem dX6_countTurn_36 : decode cX6_countTurn 36 = .ok (.iadd, 1) := by decide +kernel
theorem dX6_countTurn_37 : decode cX6_countTurn 37 = .ok (.iastore, 1) := by decide +kernel
theorem dX6_countTurn_38 : decode cX6_countTurn 38 = .ok (.aload_n 0, 1) := by decide +kernel
theorem dX6_countTurn_39 : decode cX6_countTurn 39 = .ok (.getfield 7, 3) := by decide +kernel
theorem dX6_countTurn_42 : decode cX6_countTurn 42 = .ok (.bipush 23, 2) := by decide +kernel
theorem dX6_countTurn_44 : decode cX6_countTurn 44 = .ok (.iload_n 2, 1) := by decide +kernel
theorem dX6_countTurn_45 : decode cX6_countTurn 45 = .ok (.iadd, 1) := by decide +kernel
theorem dX6_countTurn_46 : decode cX6_countTurn 46 = .ok (.iaload, 1) := by decide +kernel
theorem dX6_countTurn_47 : decode cX6_countTurn 47 = .ok (.aload_n 0, 1) := by decide +kernel
theorem dX6_countTurn_48 : decode cX6_countTurn 48 = .ok (.getfield 7, 3) := by decide +kernel
theorem dX6_countTurn_51 : decode cX6_countTurn 51 = .ok (.bipush 18, 2) := by decide +kernel
theorem dX6_countTurn_53 : decode cX6_countTurn 53 = .ok (.iload_n 2, 1) := by decide +kernel
theorem dX6_countTurn_54 : decode cX6_countTurn 54 = .ok (.iadd, 1) := by decide +kernel
theorem dX6_countTurn_55 : decode cX6_countTurn 55 = .ok (.iaload, 1) := by decide +kernel
theorem dX6_countTurn_56 : decode cX6_countTurn 56 = .ok (.invokestatic 88, 3) := by decide +kernel
theorem dX6_countTurn_59 : decode cX6_countTurn 59 = .ok (.imul, 1) := by decide +kernel
theorem dX6_countTurn_60 : decode cX6_countTurn 60 = .ok (.istore 4, 2) := by decide +kernel
theorem dX6_countTurn_62 : decode cX6_countTurn 62 = .ok (.aload_n 0, 1) := by decide +kernel
theorem dX6_countTurn_63 : decode cX6_countTurn 63 = .ok (.getfield 7, 3) := by decide +kernel
theorem dX6_countTurn_66 : decode cX6_countTurn 66 = .ok (.bipush 34, 2) := by decide +kernel
theorem dX6_countTurn_68 : decode cX6_countTurn 68 = .ok (.aload_n 0, 1) := by decide +kernel
theorem dX6_countTurn_69 : decode cX6_countTurn 69 = .ok (.getfield 7, 3) := by decide +kernel
theorem dX6_countTurn_72 : decode cX6_countTurn 72 = .ok (.bipush 34, 2) := by decide +kernel
theorem dX6_countTurn_74 : decode cX6_countTurn 74 = .ok (.iaload, 1) := by decide +kernel
theorem dX6_countTurn_75 : decode cX6_countTurn 75 = .ok (.iload_n 1, 1) := by decide +kernel
theorem dX6_countTurn_76 : decode cX6_countTurn 76 = .ok (.iconst 5, 1) := by decide +kernel
theorem dX6_countTurn_77 : decode cX6_countTurn 77 = .ok (.if_icmp .ge 8, 3) := by decide +kernel
theorem dX6_countTurn_80 : decode cX6_countTurn 80 = .ok (.iload 4, 2) := by decide +kernel
theorem dX6_countTurn_82 : decode cX6_countTurn 82 = .ok (.goto 7, 3) := by decide +kernel
theorem dX6_countTurn_85 : decode cX6_countTurn 85 = .ok (.iconst 4, 1) := by decide +kernel
theorem dX6_countTurn_86 : decode cX6_countTurn 86 = .ok (.iload 4, 2) := by decide +kernel
theorem dX6_countTurn_88 : decode cX6_countTurn 88 = .ok (.imul, 1) := by decide +kernel
theorem dX6_countTurn_89 : decode cX6_countTurn 89 = .ok (.iadd, 1) := by decide +kernel
theorem dX6_countTurn_90 : decode cX6_countTurn 90 = .ok (.iconst 5, 1) := by decide +kernel
theorem dX6_countTurn_91 : decode cX6_countTurn 91 = .ok (.irem, 1) := by decide +kernel
theorem dX6_countTurn_92 : decode cX6_countTurn 92 = .ok (.iastore, 1) := by decide +kernel
theorem dX6_countTurn_93 : decode cX6_countTurn 93 = .ok (.aload_n 0, 1) := by decide +kernel
theorem dX6_countTurn_94 : decode cX6_countTurn 94 = .ok (.getfield 7, 3) := by decide +kernel
theorem dX6_countTurn_97 : decode cX6_countTurn 97 = .ok (.bipush 35, 2) := by decide +kernel
theorem dX6_countTurn_99 : decode cX6_countTurn 99 = .ok (.dup2, 1) := by decide +kernel
theorem dX6_countTurn_100 : decode cX6_countTurn 100 = .ok (.iaload, 1) := by decide +kernel
theorem dX6_countTurn_101 : decode cX6_countTurn 101 = .ok (.iload_n 3, 1) := by decide +kernel
theorem dX6_countTurn_102 : decode cX6_countTurn 102 = .ok (.ifCond .ne 14, 3) := by decide +kernel
theorem dX6_countTurn_105 : decode cX6_countTurn 105 = .ok (.aload_n 0, 1) := by decide +kernel
theorem dX6_countTurn_106 : decode cX6_countTurn 106 = .ok (.invokevirtual 80, 3) := by decide +kernel
theorem dX6_countTurn_109 : decode cX6_countTurn 109 = .ok (.ifCond .eq 7, 3) := by decide +kernel
theorem dX6_countTurn_112 : decode cX6_countTurn 112 = .ok (.iconst 1, 1) := by decide +kernel
theorem dX6_countTurn_113 : decode cX6_countTurn 113 = .ok (.goto 4, 3) := by decide +kernel
theorem dX6_countTurn_116 : decode cX6_countTurn 116 = .ok (.iconst 0, 1) := by decide +kernel
theorem dX6_countTurn_117 : decode cX6_countTurn 117 = .ok (.iadd, 1) := by decide +kernel
theorem dX6_countTurn_118 : decode cX6_countTurn 118 = .ok (.iastore, 1) := by decide +kernel
theorem dX6_countTurn_119 : decode cX6_countTurn 119 = .ok (.return_, 1) := by decide +kernel
theorem dX6_turnNow_0 : decode cX6_turnNow 0 = .ok (.aload_n 0, 1) := by decide +kernel
theorem dX6_turnNow_1 : decode cX6_turnNow 1 = .ok (.iload_n 1, 1) := by decide +kernel
theorem dX6_turnNow_2 : decode cX6_turnNow 2 = .ok (.invokestatic 92, 3) := by decide +kernel
theorem dX6_turnNow_5 : decode cX6_turnNow 5 = .ok (.ifCond .ne 7, 3) := by decide +kernel
theorem dX6_turnNow_8 : decode cX6_turnNow 8 = .ok (.iconst 1, 1) := by decide +kernel
theorem dX6_turnNow_9 : decode cX6_turnNow 9 = .ok (.goto 16, 3) := by decide +kernel
theorem dX6_turnNow_12 : decode cX6_turnNow 12 = .ok (.aload_n 0, 1) := by decide +kernel
theorem dX6_turnNow_13 : decode cX6_turnNow 13 = .ok (.iload_n 1, 1) := by decide +kernel
theorem dX6_turnNow_14 : decode cX6_turnNow 14 = .ok (.invokevirtual 95, 3) := by decide +kernel
theorem dX6_turnNow_17 : decode cX6_turnNow 17 = .ok (.ifCond .eq 7, 3) := by decide +kernel
theorem dX6_turnNow_20 : decode cX6_turnNow 20 = .ok (.iconst 2, 1) := by decide +kernel
theorem dX6_turnNow_21 : decode cX6_turnNow 21 = .ok (.goto 4, 3) := by decide +kernel
theorem dX6_turnNow_24 : decode cX6_turnNow 24 = .ok (.iconst 0, 1) := by decide +kernel
theorem dX6_turnNow_25 : decode cX6_turnNow 25 = .ok (.putfield 46, 3) := by decide +kernel
theorem dX6_turnNow_28 : decode cX6_turnNow 28 = .ok (.aload_n 0, 1) := by decide +kernel
theorem dX6_turnNow_29 : decode cX6_turnNow 29 = .ok (.getfield 46, 3) := by decide +kernel
theorem dX6_turnNow_32 : decode cX6_turnNow 32 = .ok (.ifCond .le 5, 3) := by decide +kernel
theorem dX6_turnNow_35 : decode cX6_turnNow 35 = .ok (.iconst 0, 1) := by decide +kernel
theorem dX6_turnNow_36 : decode cX6_turnNow 36 = .ok (.ireturn, 1) := by decide +kernel
theorem dX6_turnNow_37 : decode cX6_turnNow 37 = .ok (.aload_n 0, 1) := by decide +kernel
theorem dX6_turnNow_38 : decode cX6_turnNow 38 = .ok (.invokevirtual 61, 3) := by decide +kernel
theorem dX6_turnNow_41 : decode cX6_turnNow 41 = .ok (.aload_n 0, 1) := by decide +kernel
theorem dX6_turnNow_42 : decode cX6_turnNow 42 = .ok (.iload_n 2, 1) := by decide +kernel
theorem dX6_turnNow_43 : decode cX6_turnNow 43 = .ok (.invokevirtual 98, 3) := by decide +kernel
theorem dX6_turnNow_46 : decode cX6_turnNow 46 = .ok (.aload_n 0, 1) := by decide +kernel
theorem dX6_turnNow_47 : decode cX6_turnNow 47 = .ok (.invokevirtual 76, 3) := by decide +kernel
theorem dX6_turnNow_50 : decode cX6_turnNow 50 = .ok (.ireturn, 1) := by decide +kernel
theorem dX6_turn_0 : decode cX6_turn 0 = .ok (.aload_n 0, 1) := by decide +kernel
theorem dX6_turn_1 : decode cX6_turn 1 = .ok (.iload_n 1, 1) := by decide +kernel
theorem dX6_turn_2 : decode cX6_turn 2 = .ok (.iload_n 1, 1) := by decide +kernel
theorem dX6_turn_3 : decode cX6_turn 3 = .ok (.invokevirtual 101, 3) := by decide +kernel
theorem dX6_turn_6 : decode cX6_turn 6 = .ok (.ireturn, 1) := by decide +kernel
theorem dX6_back_0 : decode cX6_back 0 = .ok (.aload_n 0, 1) := by decide +kernel
theorem dX6_back_1 : decode cX6_back 1 = .ok (.iload_n 1, 1) := by decide +kernel
theorem dX6_back_2 : decode cX6_back 2 = .ok (.iconst 5, 1) := by decide +kernel
theorem dX6_back_3 : decode cX6_back 3 = .ok (.iload_n 1, 1) := by decide +kernel
theorem dX6_back_4 : decode cX6_back 4 = .ok (.iadd, 1) := by decide +kernel
theorem dX6_back_5 : decode cX6_back 5 = .ok (.invokevirtual 101, 3) := by decide +kernel
theorem dX6_back_8 : decode cX6_back 8 = .ok (.ireturn, 1) := by decide +kernel
theorem dX6_word_0 : decode cX6_word 0 = .ok (.aload_n 0, 1) := by decide +kernel
theorem dX6_word_1 : decode cX6_word 1 = .ok (.aload_n 0, 1) := by decide +kernel
theorem dX6_word_2 : decode cX6_word 2 = .ok (.invokevirtual 104, 3) := by decide +kernel
theorem dX6_word_5 : decode cX6_word 5 = .ok (.ifCond .ne 7, 3) := by decide +kernel
theorem dX6_word_8 : decode cX6_word 8 = .ok (.iconst 1, 1) := by decide +kernel
theorem dX6_word_9 : decode cX6_word 9 = .ok (.goto 18, 3) := by decide +kernel
theorem dX6_word_12 : decode cX6_word 12 = .ok (.aload_n 0, 1) := by decide +kernel
theorem dX6_word_13 : decode cX6_word 13 = .ok (.invokevirtual 107, 3) := by decide +kernel
theorem dX6_word_16 : decode cX6_word 16 = .ok (.sipush 500, 3) := by decide +kernel
theorem dX6_word_19 : decode cX6_word 19 = .ok (.if_icmp .le 7, 3) := by decide +kernel
theorem dX6_word_22 : decode cX6_word 22 = .ok (.iconst 2, 1) := by decide +kernel
theorem dX6_word_23 : decode cX6_word 23 = .ok (.goto 4, 3) := by decide +kernel
theorem dX6_word_26 : decode cX6_word 26 = .ok (.iconst 0, 1) := by decide +kernel
theorem dX6_word_27 : decode cX6_word 27 = .ok (.putfield 46, 3) := by decide +kernel
theorem dX6_word_30 : decode cX6_word 30 = .ok (.aload_n 0, 1) := by decide +kernel
theorem dX6_word_31 : decode cX6_word 31 = .ok (.getfield 46, 3) := by decide +kernel
theorem dX6_word_34 : decode cX6_word 34 = .ok (.ifCond .le 5, 3) := by decide +kernel
theorem dX6_word_37 : decode cX6_word 37 = .ok (.iconst 0, 1) := by decide +kernel
theorem dX6_word_38 : decode cX6_word 38 = .ok (.ireturn, 1) := by decide +kernel
theorem dX6_word_39 : decode cX6_word 39 = .ok (.aload_n 0, 1) := by decide +kernel
theorem dX6_word_40 : decode cX6_word 40 = .ok (.invokevirtual 61, 3) := by decide +kernel
theorem dX6_word_43 : decode cX6_word 43 = .ok (.iconst 0, 1) := by decide +kernel
theorem dX6_word_44 : decode cX6_word 44 = .ok (.istore_n 1, 1) := by decide +kernel
theorem dX6_word_45 : decode cX6_word 45 = .ok (.iload_n 1, 1) := by decide +kernel
theorem dX6_word_46 : decode cX6_word 46 = .ok (.aload_n 0, 1) := by decide +kernel
theorem dX6_word_47 : decode cX6_word 47 = .ok (.getfield 110, 3) := by decide +kernel
theorem dX6_word_50 : decode cX6_word 50 = .ok (.if_icmp .ge 34, 3) := by decide +kernel
theorem dX6_word_53 : decode cX6_word 53 = .ok (.aload_n 0, 1) := by decide +kernel
theorem dX6_word_54 : decode cX6_word 54 = .ok (.aload_n 0, 1) := by decide +kernel
theorem dX6_word_55 : decode cX6_word 55 = .ok (.getfield 28, 3) := by decide +kernel
theorem dX6_word_58 : decode cX6_word 58 = .ok (.iload_n 1, 1) := by decide +kernel
theorem dX6_word_59 : decode cX6_word 59 = .ok (.iaload, 1) := by decide +kernel
theorem dX6_word_60 : decode cX6_word 60 = .ok (.iconst 5, 1) := by decide +kernel
theorem dX6_word_61 : decode cX6_word 61 = .ok (.irem, 1) := by decide +kernel
theorem dX6_word_62 : decode cX6_word 62 = .ok (.invokevirtual 95, 3) := by decide +kernel
theorem dX6_word_65 : decode cX6_word 65 = .ok (.ifCond .ne 19, 3) := by decide +kernel
theorem dX6_word_68 : decode cX6_word 68 = .ok (.aload_n 0, 1) := by decide +kernel
theorem dX6_word_69 : decode cX6_word 69 = .ok (.aload_n 0, 1) := by decide +kernel
theorem dX6_word_70 : decode cX6_word 70 = .ok (.getfield 28, 3) := by decide +kernel
theorem dX6_word_73 : decode cX6_word 73 = .ok (.iload_n 1, 1) := by decide +kernel
theorem dX6_word_74 : decode cX6_word 74 = .ok (.iaload, 1) := by decide +kernel
theorem dX6_word_75 : decode cX6_word 75 = .ok (.invokevirtual 98, 3) := by decide +kernel
theorem dX6_word_78 : decode cX6_word 78 = .ok (.iinc 1 1, 3) := by decide +kernel
theorem dX6_word_81 : decode cX6_word 81 = .ok (.goto (-36), 3) := by decide +kernel
theorem dX6_word_84 : decode cX6_word 84 = .ok (.aload_n 0, 1) := by decide +kernel
theorem dX6_word_85 : decode cX6_word 85 = .ok (.iconst 0, 1) := by decide +kernel
theorem dX6_word_86 : decode cX6_word 86 = .ok (.putfield 113, 3) := by decide +kernel
theorem dX6_word_89 : decode cX6_word 89 = .ok (.iload_n 1, 1) := by decide +kernel
theorem dX6_word_90 : decode cX6_word 90 = .ok (.ireturn, 1) := by decide +kernel
theorem dX6_away_0 : decode cX6_away 0 = .ok (.iconst 0, 1) := by decide +kernel
theorem dX6_away_1 : decode cX6_away 1 = .ok (.istore_n 1, 1) := by decide +kernel
theorem dX6_away_2 : decode cX6_away 2 = .ok (.iconst 0, 1) := by decide +kernel
theorem dX6_away_3 : decode cX6_away 3 = .ok (.istore_n 2, 1) := by decide +kernel
theorem dX6_away_4 : decode cX6_away 4 = .ok (.iload_n 2, 1) := by decide +kernel
theorem dX6_away_5 : decode cX6_away 5 = .ok (.bipush 6, 2) := by decide +kernel
theorem dX6_away_7 : decode cX6_away 7 = .ok (.if_icmp .ge 41, 3) := by decide +kernel
theorem dX6_away_10 : decode cX6_away 10 = .ok (.iload_n 1, 1) := by decide +kernel
theorem dX6_away_11 : decode cX6_away 11 = .ok (.aload_n 0, 1) := by decide +kernel
theorem dX6_away_12 : decode cX6_away 12 = .ok (.getfield 7, 3) := by decide +kernel
theorem dX6_away_15 : decode cX6_away 15 = .ok (.iconst 0, 1) := by decide +kernel
theorem dX6_away_16 : decode cX6_away 16 = .ok (.iload_n 2, 1) := by decide +kernel
theorem dX6_away_17 : decode cX6_away 17 = .ok (.iadd, 1) := by decide +kernel
theorem dX6_away_18 : decode cX6_away 18 = .ok (.iaload, 1) := by decide +kernel
theorem dX6_away_19 : decode cX6_away 19 = .ok (.iload_n 2, 1) := by decide +kernel
theorem dX6_away_20 : decode cX6_away 20 = .ok (.if_icmp .ne 15, 3) := by decide +kernel
theorem dX6_away_23 : decode cX6_away 23 = .ok (.aload_n 0, 1) := by decide +kernel
theorem dX6_away_24 : decode cX6_away 24 = .ok (.getfield 7, 3) := by decide +kernel
theorem dX6_away_27 : decode cX6_away 27 = .ok (.bipush 6, 2) := by decide +kernel
theorem dX6_away_29 : decode cX6_away 29 = .ok (.iload_n 2, 1) := by decide +kernel
theorem dX6_away_30 : decode cX6_away 30 = .ok (.iadd, 1) := by decide +kernel
theorem dX6_away_31 : decode cX6_away 31 = .ok (.iaload, 1) := by decide +kernel
theorem dX6_away_32 : decode cX6_away 32 = .ok (.ifCond .eq 7, 3) := by decide +kernel
theorem dX6_away_35 : decode cX6_away 35 = .ok (.iconst 1, 1) := by decide +kernel
theorem dX6_away_36 : decode cX6_away 36 = .ok (.goto 4, 3) := by decide +kernel
theorem dX6_away_39 : decode cX6_away 39 = .ok (.iconst 0, 1) := by decide +kernel
theorem dX6_away_40 : decode cX6_away 40 = .ok (.iadd, 1) := by decide +kernel
theorem dX6_away_41 : decode cX6_away 41 = .ok (.istore_n 1, 1) := by decide +kernel
theorem dX6_away_42 : decode cX6_away 42 = .ok (.iinc 2 1, 3) := by decide +kernel
theorem dX6_away_45 : decode cX6_away 45 = .ok (.goto (-41), 3) := by decide +kernel
theorem dX6_away_48 : decode cX6_away 48 = .ok (.iload_n 1, 1) := by decide +kernel
theorem dX6_away_49 : decode cX6_away 49 = .ok (.ireturn, 1) := by decide +kernel
theorem dX6_home_0 : decode cX6_home 0 = .ok (.aload_n 0, 1) := by decide +kernel
theorem dX6_home_1 : decode cX6_home 1 = .ok (.iconst 0, 1) := by decide +kernel
theorem dX6_home_2 : decode cX6_home 2 = .ok (.putfield 46, 3) := by decide +kernel
theorem dX6_home_5 : decode cX6_home 5 = .ok (.aload_n 0, 1) := by decide +kernel
theorem dX6_home_6 : decode cX6_home 6 = .ok (.invokevirtual 61, 3) := by decide +kernel
theorem dX6_home_9 : decode cX6_home 9 = .ok (.aload_n 0, 1) := by decide +kernel
theorem dX6_home_10 : decode cX6_home 10 = .ok (.invokevirtual 116, 3) := by decide +kernel
theorem dX6_home_13 : decode cX6_home 13 = .ok (.istore_n 1, 1) := by decide +kernel
theorem dX6_home_14 : decode cX6_home 14 = .ok (.aload_n 0, 1) := by decide +kernel
theorem dX6_home_15 : decode cX6_home 15 = .ok (.invokevirtual 119, 3) := by decide +kernel
theorem dX6_home_18 : decode cX6_home 18 = .ok (.aload_n 0, 1) := by decide +kernel
theorem dX6_home_19 : decode cX6_home 19 = .ok (.getfield 7, 3) := by decide +kernel
theorem dX6_home_22 : decode cX6_home 22 = .ok (.bipush 34, 2) := by decide +kernel
theorem dX6_home_24 : decode cX6_home 24 = .ok (.iconst 0, 1) := by decide +kernel
theorem dX6_home_25 : decode cX6_home 25 = .ok (.iastore, 1) := by decide +kernel
theorem dX6_home_26 : decode cX6_home 26 = .ok (.iload_n 1, 1) := by decide +kernel
theorem dX6_home_27 : decode cX6_home 27 = .ok (.ireturn, 1) := by decide +kernel
theorem dX6_cut_0 : decode cX6_cut 0 = .ok (.iload_n 2, 1) := by decide +kernel
theorem dX6_cut_1 : decode cX6_cut 1 = .ok (.iconst 0, 1) := by decide +kernel
theorem dX6_cut_2 : decode cX6_cut 2 = .ok (.bipush 63, 2) := by decide +kernel
theorem dX6_cut_4 : decode cX6_cut 4 = .ok (.invokestatic 50, 3) := by decide +kernel
theorem dX6_cut_7 : decode cX6_cut 7 = .ok (.ifCond .eq 24, 3) := by decide +kernel
theorem dX6_cut_10 : decode cX6_cut 10 = .ok (.iload_n 2, 1) := by decide +kernel
theorem dX6_cut_11 : decode cX6_cut 11 = .ok (.invokestatic 88, 3) := by decide +kernel
theorem dX6_cut_14 : decode cX6_cut 14 = .ok (.iconst 1, 1) := by decide +kernel
theorem dX6_cut_15 : decode cX6_cut 15 = .ok (.if_icmp .le 16, 3) := by decide +kernel
theorem dX6_cut_18 : decode cX6_cut 18 = .ok (.iload_n 3, 1) := by decide +kernel
theorem dX6_cut_19 : decode cX6_cut 19 = .ok (.iconst 0, 1) := by decide +kernel
theorem dX6_cut_20 : decode cX6_cut 20 = .ok (.iconst 4, 1) := by decide +kernel
theorem dX6_cut_21 : decode cX6_cut 21 = .ok (.invokestatic 50, 3) := by decide +kernel
theorem dX6_cut_24 : decode cX6_cut 24 = .ok (.ifCond .eq 7, 3) := by decide +kernel
theorem dX6_cut_27 : decode cX6_cut 27 = .ok (.iconst 1, 1) := by decide +kernel
theorem dX6_cut_28 : decode cX6_cut 28 = .ok (.goto 4, 3) := by decide +kernel
theorem dX6_cut_31 : decode cX6_cut 31 = .ok (.iconst 0, 1) := by decide +kernel
theorem dX6_cut_32 : decode cX6_cut 32 = .ok (.istore 4, 2) := by decide +kernel
theorem dX6_cut_34 : decode cX6_cut 34 = .ok (.aload_n 0, 1) := by decide +kernel
theorem dX6_cut_35 : decode cX6_cut 35 = .ok (.iload_n 1, 1) := by decide +kernel
theorem dX6_cut_36 : decode cX6_cut 36 = .ok (.invokestatic 92, 3) := by decide +kernel
theorem dX6_cut_39 : decode cX6_cut 39 = .ok (.ifCond .ne 7, 3) := by decide +kernel
theorem dX6_cut_42 : decode cX6_cut 42 = .ok (.iconst 1, 1) := by decide +kernel
theorem dX6_cut_43 : decode cX6_cut 43 = .ok (.goto 13, 3) := by decide +kernel
theorem dX6_cut_46 : decode cX6_cut 46 = .ok (.iload 4, 2) := by decide +kernel
theorem dX6_cut_48 : decode cX6_cut 48 = .ok (.ifCond .eq 7, 3) := by decide +kernel
theorem dX6_cut_51 : decode cX6_cut 51 = .ok (.iconst 0, 1) := by decide +kernel
theorem dX6_cut_52 : decode cX6_cut 52 = .ok (.goto 4, 3) := by decide +kernel
theorem dX6_cut_55 : decode cX6_cut 55 = .ok (.iconst 2, 1) := by decide +kernel
theorem dX6_cut_56 : decode cX6_cut 56 = .ok (.putfield 46, 3) := by decide +kernel
theorem dX6_cut_59 : decode cX6_cut 59 = .ok (.aload_n 0, 1) := by decide +kernel
theorem dX6_cut_60 : decode cX6_cut 60 = .ok (.getfield 46, 3) := by decide +kernel
theorem dX6_cut_63 : decode cX6_cut 63 = .ok (.ifCond .le 5, 3) := by decide +kernel
theorem dX6_cut_66 : decode cX6_cut 66 = .ok (.iconst 0, 1) := by decide +kernel
theorem dX6_cut_67 : decode cX6_cut 67 = .ok (.ireturn, 1) := by decide +kernel
theorem dX6_cut_68 : decode cX6_cut 68 = .ok (.aload_n 0, 1) := by decide +kernel
theorem dX6_cut_69 : decode cX6_cut 69 = .ok (.invokevirtual 61, 3) := by decide +kernel
theorem dX6_cut_72 : decode cX6_cut 72 = .ok (.aload_n 0, 1) := by decide +kernel
theorem dX6_cut_73 : decode cX6_cut 73 = .ok (.getfield 7, 3) := by decide +kernel
theorem dX6_cut_76 : decode cX6_cut 76 = .ok (.bipush 18, 2) := by decide +kernel
theorem dX6_cut_78 : decode cX6_cut 78 = .ok (.iload_n 1, 1) := by decide +kernel
theorem dX6_cut_79 : decode cX6_cut 79 = .ok (.iadd, 1) := by decide +kernel
theorem dX6_cut_80 : decode cX6_cut 80 = .ok (.iaload, 1) := by decide +kernel
theorem dX6_cut_81 : decode cX6_cut 81 = .ok (.istore 5, 2) := by decide +kernel
theorem dX6_cut_83 : decode cX6_cut 83 = .ok (.aload_n 0, 1) := by decide +kernel
theorem dX6_cut_84 : decode cX6_cut 84 = .ok (.getfield 7, 3) := by decide +kernel
theorem dX6_cut_87 : decode cX6_cut 87 = .ok (.bipush 18, 2) := by decide +kernel
theorem dX6_cut_89 : decode cX6_cut 89 = .ok (.iload_n 1, 1) := by decide +kernel
theorem dX6_cut_90 : decode cX6_cut 90 = .ok (.iadd, 1) := by decide +kernel
theorem dX6_cut_91 : decode cX6_cut 91 = .ok (.iload_n 2, 1) := by decide +kernel
theorem dX6_cut_92 : decode cX6_cut 92 = .ok (.iastore, 1) := by decide +kernel
theorem dX6_cut_93 : decode cX6_cut 93 = .ok (.aload_n 0, 1) := by decide +kernel
theorem dX6_cut_94 : decode cX6_cut 94 = .ok (.getfield 7, 3) := by decide +kernel
theorem dX6_cut_97 : decode cX6_cut 97 = .ok (.bipush 23, 2) := by decide +kernel
theorem dX6_cut_99 : decode cX6_cut 99 = .ok (.iload_n 1, 1) := by decide +kernel
theorem dX6_cut_100 : decode cX6_cut 100 = .ok (.iadd, 1) := by decide +kernel
theorem dX6_cut_101 : decode cX6_cut 101 = .ok (.iload_n 3, 1) := by decide +kernel
theorem dX6_cut_102 : decode cX6_cut 102 = .ok (.iastore, 1) := by decide +kernel
theorem dX6_cut_103 : decode cX6_cut 103 = .ok (.iload 5, 2) := by decide +kernel
theorem dX6_cut_105 : decode cX6_cut 105 = .ok (.ireturn, 1) := by decide +kernel
theorem dX6_stuckKeys_0 : decode cX6_stuckKeys 0 = .ok (.iconst 0, 1) := by decide +kernel
theorem dX6_stuckKeys_1 : decode cX6_stuckKeys 1 = .ok (.istore_n 1, 1) := by decide +kernel
theorem dX6_stuckKeys_2 : decode cX6_stuckKeys 2 = .ok (.iconst 0, 1) := by decide +kernel
theorem dX6_stuckKeys_3 : decode cX6_stuckKeys 3 = .ok (.istore_n 2, 1) := by decide +kernel
theorem dX6_stuckKeys_4 : decode cX6_stuckKeys 4 = .ok (.iload_n 2, 1) := by decide +kernel
theorem dX6_stuckKeys_5 : decode cX6_stuckKeys 5 = .ok (.iconst 5, 1) := by decide +kernel
theorem dX6_stuckKeys_6 : decode cX6_stuckKeys 6 = .ok (.if_icmp .ge 25, 3) := by decide +kernel
theorem dX6_stuckKeys_9 : decode cX6_stuckKeys 9 = .ok (.iload_n 1, 1) := by decide +kernel
theorem dX6_stuckKeys_10 : decode cX6_stuckKeys 10 = .ok (.aload_n 0, 1) := by decide +kernel
theorem dX6_stuckKeys_11 : decode cX6_stuckKeys 11 = .ok (.iload_n 2, 1) := by decide +kernel
theorem dX6_stuckKeys_12 : decode cX6_stuckKeys 12 = .ok (.invokevirtual 95, 3) := by decide +kernel
theorem dX6_stuckKeys_15 : decode cX6_stuckKeys 15 = .ok (.ifCond .eq 7, 3) := by decide +kernel
theorem dX6_stuckKeys_18 : decode cX6_stuckKeys 18 = .ok (.iconst 1, 1) := by decide +kernel
theorem dX6_stuckKeys_19 : decode cX6_stuckKeys 19 = .ok (.goto 4, 3) := by decide +kernel
theorem dX6_stuckKeys_22 : decode cX6_stuckKeys 22 = .ok (.iconst 0, 1) := by decide +kernel
theorem dX6_stuckKeys_23 : decode cX6_stuckKeys 23 = .ok (.iadd, 1) := by decide +kernel
theorem dX6_stuckKeys_24 : decode cX6_stuckKeys 24 = .ok (.istore_n 1, 1) := by decide +kernel
theorem dX6_stuckKeys_25 : decode cX6_stuckKeys 25 = .ok (.iinc 2 1, 3) := by decide +kernel
theorem dX6_stuckKeys_28 : decode cX6_stuckKeys 28 = .ok (.goto (-24), 3) := by decide +kernel
theorem dX6_stuckKeys_31 : decode cX6_stuckKeys 31 = .ok (.iload_n 1, 1) := by decide +kernel
theorem dX6_stuckKeys_32 : decode cX6_stuckKeys 32 = .ok (.ireturn, 1) := by decide +kernel
theorem dX6_stick_0 : decode cX6_stick 0 = .ok (.aload_n 0, 1) := by decide +kernel
theorem dX6_stick_1 : decode cX6_stick 1 = .ok (.iload_n 1, 1) := by decide +kernel
theorem dX6_stick_2 : decode cX6_stick 2 = .ok (.invokestatic 122, 3) := by decide +kernel
theorem dX6_stick_5 : decode cX6_stick 5 = .ok (.ifCond .eq 7, 3) := by decide +kernel
theorem dX6_stick_8 : decode cX6_stick 8 = .ok (.iconst 0, 1) := by decide +kernel
theorem dX6_stick_9 : decode cX6_stick 9 = .ok (.goto 4, 3) := by decide +kernel
theorem dX6_stick_12 : decode cX6_stick 12 = .ok (.iconst 1, 1) := by decide +kernel
theorem dX6_stick_13 : decode cX6_stick 13 = .ok (.putfield 46, 3) := by decide +kernel
theorem dX6_stick_16 : decode cX6_stick 16 = .ok (.aload_n 0, 1) := by decide +kernel
theorem dX6_stick_17 : decode cX6_stick 17 = .ok (.getfield 46, 3) := by decide +kernel
theorem dX6_stick_20 : decode cX6_stick 20 = .ok (.ifCond .le 5, 3) := by decide +kernel
theorem dX6_stick_23 : decode cX6_stick 23 = .ok (.iconst 0, 1) := by decide +kernel
theorem dX6_stick_24 : decode cX6_stick 24 = .ok (.ireturn, 1) := by decide +kernel
theorem dX6_stick_25 : decode cX6_stick 25 = .ok (.aload_n 0, 1) := by decide +kernel
theorem dX6_stick_26 : decode cX6_stick 26 = .ok (.invokevirtual 61, 3) := by decide +kernel
theorem dX6_stick_29 : decode cX6_stick 29 = .ok (.aload_n 0, 1) := by decide +kernel
theorem dX6_stick_30 : decode cX6_stick 30 = .ok (.getfield 7, 3) := by decide +kernel
theorem dX6_stick_33 : decode cX6_stick 33 = .ok (.bipush 12, 2) := by decide +kernel
theorem dX6_stick_35 : decode cX6_stick 35 = .ok (.iload_n 1, 1) := by decide +kernel
theorem dX6_stick_36 : decode cX6_stick 36 = .ok (.iadd, 1) := by decide +kernel
theorem dX6_stick_37 : decode cX6_stick 37 = .ok (.iconst 1, 1) := by decide +kernel
theorem dX6_stick_38 : decode cX6_stick 38 = .ok (.aload_n 0, 1) := by decide +kernel
theorem dX6_stick_39 : decode cX6_stick 39 = .ok (.getfield 7, 3) := by decide +kernel
theorem dX6_stick_42 : decode cX6_stick 42 = .ok (.bipush 12, 2) := by decide +kernel
theorem dX6_stick_44 : decode cX6_stick 44 = .ok (.iload_n 1, 1) := by decide +kernel
theorem dX6_stick_45 : decode cX6_stick 45 = .ok (.iadd, 1) := by decide +kernel
theorem dX6_stick_46 : decode cX6_stick 46 = .ok (.iaload, 1) := by decide +kernel
theorem dX6_stick_47 : decode cX6_stick 47 = .ok (.isub, 1) := by decide +kernel
theorem dX6_stick_48 : decode cX6_stick 48 = .ok (.iastore, 1) := by decide +kernel
theorem dX6_stick_49 : decode cX6_stick 49 = .ok (.aload_n 0, 1) := by decide +kernel
theorem dX6_stick_50 : decode cX6_stick 50 = .ok (.invokevirtual 125, 3) := by decide +kernel
theorem dX6_stick_53 : decode cX6_stick 53 = .ok (.ireturn, 1) := by decide +kernel
theorem dX6_notches_0 : decode cX6_notches 0 = .ok (.iconst 0, 1) := by decide +kernel
theorem dX6_notches_1 : decode cX6_notches 1 = .ok (.istore_n 1, 1) := by decide +kernel
theorem dX6_notches_2 : decode cX6_notches 2 = .ok (.iconst 0, 1) := by decide +kernel
theorem dX6_notches_3 : decode cX6_notches 3 = .ok (.istore_n 2, 1) := by decide +kernel
theorem dX6_notches_4 : decode cX6_notches 4 = .ok (.iload_n 2, 1) := by decide +kernel
theorem dX6_notches_5 : decode cX6_notches 5 = .ok (.bipush 6, 2) := by decide +kernel
theorem dX6_notches_7 : decode cX6_notches 7 = .ok (.if_icmp .ge 21, 3) := by decide +kernel
theorem dX6_notches_10 : decode cX6_notches 10 = .ok (.iload_n 1, 1) := by decide +kernel
theorem dX6_notches_11 : decode cX6_notches 11 = .ok (.aload_n 0, 1) := by decide +kernel
theorem dX6_notches_12 : decode cX6_notches 12 = .ok (.getfield 7, 3) := by decide +kernel
theorem dX6_notches_15 : decode cX6_notches 15 = .ok (.bipush 6, 2) := by decide +kernel
theorem dX6_notches_17 : decode cX6_notches 17 = .ok (.iload_n 2, 1) := by decide +kernel
theorem dX6_notches_18 : decode cX6_notches 18 = .ok (.iadd, 1) := by decide +kernel
theorem dX6_notches_19 : decode cX6_notches 19 = .ok (.iaload, 1) := by decide +kernel
theorem dX6_notches_20 : decode cX6_notches 20 = .ok (.iadd, 1) := by decide +kernel
theorem dX6_notches_21 : decode cX6_notches 21 = .ok (.istore_n 1, 1) := by decide +kernel
theorem dX6_notches_22 : decode cX6_notches 22 = .ok (.iinc 2 1, 3) := by decide +kernel
theorem dX6_notches_25 : decode cX6_notches 25 = .ok (.goto (-21), 3) := by decide +kernel
theorem dX6_notches_28 : decode cX6_notches 28 = .ok (.iload_n 1, 1) := by decide +kernel
theorem dX6_notches_29 : decode cX6_notches 29 = .ok (.ireturn, 1) := by decide +kernel
theorem dX6_learn_0 : decode cX6_learn 0 = .ok (.aload_n 0, 1) := by decide +kernel
theorem dX6_learn_1 : decode cX6_learn 1 = .ok (.iconst 0, 1) := by decide +kernel
theorem dX6_learn_2 : decode cX6_learn 2 = .ok (.putfield 46, 3) := by decide +kernel
theorem dX6_learn_5 : decode cX6_learn 5 = .ok (.aload_n 0, 1) := by decide +kernel
theorem dX6_learn_6 : decode cX6_learn 6 = .ok (.invokevirtual 61, 3) := by decide +kernel
theorem dX6_learn_9 : decode cX6_learn 9 = .ok (.aload_n 0, 1) := by decide +kernel
theorem dX6_learn_10 : decode cX6_learn 10 = .ok (.getfield 7, 3) := by decide +kernel
theorem dX6_learn_13 : decode cX6_learn 13 = .ok (.bipush 36, 2) := by decide +kernel
theorem dX6_learn_15 : decode cX6_learn 15 = .ok (.iconst 1, 1) := by decide +kernel
theorem dX6_learn_16 : decode cX6_learn 16 = .ok (.iastore, 1) := by decide +kernel
theorem dX6_learn_17 : decode cX6_learn 17 = .ok (.iconst 0, 1) := by decide +kernel
theorem dX6_learn_18 : decode cX6_learn 18 = .ok (.istore_n 1, 1) := by decide +kernel
theorem dX6_learn_19 : decode cX6_learn 19 = .ok (.iload_n 1, 1) := by decide +kernel
theorem dX6_learn_20 : decode cX6_learn 20 = .ok (.bipush 6, 2) := by decide +kernel
theorem dX6_learn_22 : decode cX6_learn 22 = .ok (.if_icmp .ge 44, 3) := by decide +kernel
theorem dX6_learn_25 : decode cX6_learn 25 = .ok (.aload_n 0, 1) := by decide +kernel
theorem dX6_learn_26 : decode cX6_learn 26 = .ok (.getfield 7, 3) := by decide +kernel
theorem dX6_learn_29 : decode cX6_learn 29 = .ok (.bipush 37, 2) := by decide +kernel
theorem dX6_learn_31 : decode cX6_learn 31 = .ok (.iload_n 1, 1) := by decide +kernel
theorem dX6_learn_32 : decode cX6_learn 32 = .ok (.iadd, 1) := by decide +kernel
theorem dX6_learn_33 : decode cX6_learn 33 = .ok (.aload_n 0, 1) := by decide +kernel
theorem dX6_learn_34 : decode cX6_learn 34 = .ok (.getfield 7, 3) := by decide +kernel
theorem dX6_learn_37 : decode cX6_learn 37 = .ok (.iconst 0, 1) := by decide +kernel
theorem dX6_learn_38 : decode cX6_learn 38 = .ok (.iload_n 1, 1) := by decide +kernel
theorem dX6_learn_39 : decode cX6_learn 39 = .ok (.iadd, 1) := by decide +kernel
theorem dX6_learn_40 : decode cX6_learn 40 = .ok (.iaload, 1) := by decide +kernel
theorem dX6_learn_41 : decode cX6_learn 41 = .ok (.iastore, 1) := by decide +kernel
theorem dX6_learn_42 : decode cX6_learn 42 = .ok (.aload_n 0, 1) := by decide +kernel
theorem dX6_learn_43 : decode cX6_learn 43 = .ok (.getfield 7, 3) := by decide +kernel
theorem dX6_learn_46 : decode cX6_learn 46 = .ok (.bipush 43, 2) := by decide +kernel
theorem dX6_learn_48 : decode cX6_learn 48 = .ok (.iload_n 1, 1) := by decide +kernel
theorem dX6_learn_49 : decode cX6_learn 49 = .ok (.iadd, 1) := by decide +kernel
theorem dX6_learn_50 : decode cX6_learn 50 = .ok (.aload_n 0, 1) := by decide +kernel
theorem dX6_learn_51 : decode cX6_learn 51 = .ok (.getfield 7, 3) := by decide +kernel
theorem dX6_learn_54 : decode cX6_learn 54 = .ok (.bipush 6, 2) := by decide +kernel
theorem dX6_learn_56 : decode cX6_learn 56 = .ok (.iload_n 1, 1) := by decide +kernel
theorem dX6_learn_57 : decode cX6_learn 57 = .ok (.iadd, 1) := by decide +kernel
theorem dX6_learn_58 : decode cX6_learn 58 = .ok (.iaload, 1) := by decide +kernel
theorem dX6_learn_59 : decode cX6_learn 59 = .ok (.iastore, 1) := by decide +kernel
theorem dX6_learn_60 : decode cX6_learn 60 = .ok (.iinc 1 1, 3) := by decide +kernel
theorem dX6_learn_63 : decode cX6_learn 63 = .ok (.goto (-44), 3) := by decide +kernel
theorem dX6_learn_66 : decode cX6_learn 66 = .ok (.aload_n 0, 1) := by decide +kernel
theorem dX6_learn_67 : decode cX6_learn 67 = .ok (.invokevirtual 128, 3) := by decide +kernel
theorem dX6_learn_70 : decode cX6_learn 70 = .ok (.ireturn, 1) := by decide +kernel
theorem dX6_append_0 : decode cX6_append 0 = .ok (.aload_n 0, 1) := by decide +kernel
theorem dX6_append_1 : decode cX6_append 1 = .ok (.iload_n 1, 1) := by decide +kernel
theorem dX6_append_2 : decode cX6_append 2 = .ok (.bipush 33, 2) := by decide +kernel
theorem dX6_append_4 : decode cX6_append 4 = .ok (.bipush 126, 2) := by decide +kernel
theorem dX6_append_6 : decode cX6_append 6 = .ok (.invokestatic 50, 3) := by decide +kernel
theorem dX6_append_9 : decode cX6_append 9 = .ok (.ifCond .ne 7, 3) := by decide +kernel
theorem dX6_append_12 : decode cX6_append 12 = .ok (.iconst 1, 1) := by decide +kernel
theorem dX6_append_13 : decode cX6_append 13 = .ok (.goto 17, 3) := by decide +kernel
theorem dX6_append_16 : decode cX6_append 16 = .ok (.aload_n 0, 1) := by decide +kernel
theorem dX6_append_17 : decode cX6_append 17 = .ok (.getfield 113, 3) := by decide +kernel
theorem dX6_append_20 : decode cX6_append 20 = .ok (.bipush 60, 2) := by decide +kernel
theorem dX6_append_22 : decode cX6_append 22 = .ok (.if_icmp .ne 7, 3) := by decide +kernel
theorem dX6_append_25 : decode cX6_append 25 = .ok (.iconst 2, 1) := by decide +kernel
theorem dX6_append_26 : decode cX6_append 26 = .ok (.goto 4, 3) := by decide +kernel
theorem dX6_append_29 : decode cX6_append 29 = .ok (.iconst 0, 1) := by decide +kernel
theorem dX6_append_30 : decode cX6_append 30 = .ok (.putfield 46, 3) := by decide +kernel
theorem dX6_append_33 : decode cX6_append 33 = .ok (.aload_n 0, 1) := by decide +kernel
theorem dX6_append_34 : decode cX6_append 34 = .ok (.getfield 46, 3) := by decide +kernel
theorem dX6_append_37 : decode cX6_append 37 = .ok (.ifCond .le 5, 3) := by decide +kernel
theorem dX6_append_40 : decode cX6_append 40 = .ok (.iconst 0, 1) := by decide +kernel
theorem dX6_append_41 : decode cX6_append 41 = .ok (.ireturn, 1) := by decide +kernel
theorem dX6_append_42 : decode cX6_append 42 = .ok (.aload_n 0, 1) := by decide +kernel
theorem dX6_append_43 : decode cX6_append 43 = .ok (.getfield 22, 3) := by decide +kernel
theorem dX6_append_46 : decode cX6_append 46 = .ok (.aload_n 0, 1) := by decide +kernel
theorem dX6_append_47 : decode cX6_append 47 = .ok (.getfield 113, 3) := by decide +kernel
theorem dX6_append_50 : decode cX6_append 50 = .ok (.iload_n 1, 1) := by decide +kernel
theorem dX6_append_51 : decode cX6_append 51 = .ok (.iastore, 1) := by decide +kernel
theorem dX6_append_52 : decode cX6_append 52 = .ok (.aload_n 0, 1) := by decide +kernel
theorem dX6_append_53 : decode cX6_append 53 = .ok (.dup, 1) := by decide +kernel
theorem dX6_append_54 : decode cX6_append 54 = .ok (.getfield 113, 3) := by decide +kernel
theorem dX6_append_57 : decode cX6_append 57 = .ok (.iconst 1, 1) := by decide +kernel
theorem dX6_append_58 : decode cX6_append 58 = .ok (.iadd, 1) := by decide +kernel
theorem dX6_append_59 : decode cX6_append 59 = .ok (.putfield 113, 3) := by decide +kernel
theorem dX6_append_62 : decode cX6_append 62 = .ok (.aload_n 0, 1) := by decide +kernel
theorem dX6_append_63 : decode cX6_append 63 = .ok (.getfield 113, 3) := by decide +kernel
theorem dX6_append_66 : decode cX6_append 66 = .ok (.ireturn, 1) := by decide +kernel
theorem dX6_clearBuffer_0 : decode cX6_clearBuffer 0 = .ok (.aload_n 0, 1) := by decide +kernel
theorem dX6_clearBuffer_1 : decode cX6_clearBuffer 1 = .ok (.iconst 0, 1) := by decide +kernel
theorem dX6_clearBuffer_2 : decode cX6_clearBuffer 2 = .ok (.putfield 46, 3) := by decide +kernel
theorem dX6_clearBuffer_5 : decode cX6_clearBuffer 5 = .ok (.aload_n 0, 1) := by decide +kernel
theorem dX6_clearBuffer_6 : decode cX6_clearBuffer 6 = .ok (.getfield 113, 3) := by decide +kernel
theorem dX6_clearBuffer_9 : decode cX6_clearBuffer 9 = .ok (.istore_n 1, 1) := by decide +kernel
theorem dX6_clearBuffer_10 : decode cX6_clearBuffer 10 = .ok (.aload_n 0, 1) := by decide +kernel
theorem dX6_clearBuffer_11 : decode cX6_clearBuffer 11 = .ok (.iconst 0, 1) := by decide +kernel
theorem dX6_clearBuffer_12 : decode cX6_clearBuffer 12 = .ok (.putfield 113, 3) := by decide +kernel
theorem dX6_clearBuffer_15 : decode cX6_clearBuffer 15 = .ok (.iload_n 1, 1) := by decide +kernel
theorem dX6_clearBuffer_16 : decode cX6_clearBuffer 16 = .ok (.ireturn, 1) := by decide +kernel
theorem dX6_takeSign_0 : decode cX6_takeSign 0 = .ok (.aload_n 0, 1) := by decide +kernel
theorem dX6_takeSign_1 : decode cX6_takeSign 1 = .ok (.getfield 131, 3) := by decide +kernel
theorem dX6_takeSign_4 : decode cX6_takeSign 4 = .ok (.ifCond .eq 17, 3) := by decide +kernel
theorem dX6_takeSign_7 : decode cX6_takeSign 7 = .ok (.aload_n 0, 1) := by decide +kernel
theorem dX6_takeSign_8 : decode cX6_takeSign 8 = .ok (.iconst 0, 1) := by decide +kernel
theorem dX6_takeSign_9 : decode cX6_takeSign 9 = .ok (.putfield 131, 3) := by decide +kernel
theorem dX6_takeSign_12 : decode cX6_takeSign 12 = .ok (.iload_n 1, 1) := by decide +kernel
theorem dX6_takeSign_13 : decode cX6_takeSign 13 = .ok (.bipush 50, 2) := by decide +kernel
theorem dX6_takeSign_15 : decode cX6_takeSign 15 = .ok (.bipush 57, 2) := by decide +kernel
theorem dX6_takeSign_17 : decode cX6_takeSign 17 = .ok (.invokestatic 50, 3) := by decide +kernel
theorem dX6_takeSign_20 : decode cX6_takeSign 20 = .ok (.ireturn, 1) := by decide +kernel
theorem dX6_takeSign_21 : decode cX6_takeSign 21 = .ok (.iload_n 1, 1) := by decide +kernel
theorem dX6_takeSign_22 : decode cX6_takeSign 22 = .ok (.bipush 97, 2) := by decide +kernel
theorem dX6_takeSign_24 : decode cX6_takeSign 24 = .ok (.bipush 101, 2) := by decide +kernel
theorem dX6_takeSign_26 : decode cX6_takeSign 26 = .ok (.invokestatic 50, 3) := by decide +kernel
theorem dX6_takeSign_29 : decode cX6_takeSign 29 = .ok (.ifCond .ne 14, 3) := by decide +kernel
theorem dX6_takeSign_32 : decode cX6_takeSign 32 = .ok (.iload_n 1, 1) := by decide +kernel
theorem dX6_takeSign_33 : decode cX6_takeSign 33 = .ok (.bipush 65, 2) := by decide +kernel
theorem dX6_takeSign_35 : decode cX6_takeSign 35 = .ok (.bipush 69, 2) := by decide +kernel
theorem dX6_takeSign_37 : decode cX6_takeSign 37 = .ok (.invokestatic 50, 3) := by decide +kernel
theorem dX6_takeSign_40 : decode cX6_takeSign 40 = .ok (.ifCond .eq 10, 3) := by decide +kernel
theorem dX6_takeSign_43 : decode cX6_takeSign 43 = .ok (.aload_n 0, 1) := by decide +kernel
theorem dX6_takeSign_44 : decode cX6_takeSign 44 = .ok (.iconst 1, 1) := by decide +kernel
theorem dX6_takeSign_45 : decode cX6_takeSign 45 = .ok (.putfield 134, 3) := by decide +kernel
theorem dX6_takeSign_48 : decode cX6_takeSign 48 = .ok (.iconst 1, 1) := by decide +kernel
theorem dX6_takeSign_49 : decode cX6_takeSign 49 = .ok (.ireturn, 1) := by decide +kernel
theorem dX6_takeSign_50 : decode cX6_takeSign 50 = .ok (.iload_n 1, 1) := by decide +kernel
theorem dX6_takeSign_51 : decode cX6_takeSign 51 = .ok (.bipush 40, 2) := by decide +kernel
theorem dX6_takeSign_53 : decode cX6_takeSign 53 = .ok (.if_icmp .eq 9, 3) := by decide +kernel
theorem dX6_takeSign_56 : decode cX6_takeSign 56 = .ok (.iload_n 1, 1) := by decide +kernel
theorem dX6_takeSign_57 : decode cX6_takeSign 57 = .ok (.bipush 91, 2) := by decide +kernel
theorem dX6_takeSign_59 : decode cX6_takeSign 59 = .ok (.if_icmp .ne 54, 3) := by decide +kernel
theorem dX6_takeSign_62 : decode cX6_takeSign 62 = .ok (.aload_n 0, 1) := by decide +kernel
theorem dX6_takeSign_63 : decode cX6_takeSign 63 = .ok (.getfield 137, 3) := by decide +kernel
theorem dX6_takeSign_66 : decode cX6_takeSign 66 = .ok (.aload_n 0, 1) := by decide +kernel
theorem dX6_takeSign_67 : decode cX6_takeSign 67 = .ok (.getfield 31, 3) := by decide +kernel
theorem dX6_takeSign_70 : decode cX6_takeSign 70 = .ok (.arraylength, 1) := by decide +kernel
theorem dX6_takeSign_71 : decode cX6_takeSign 71 = .ok (.if_icmp .ne 5, 3) := by decide +kernel
theorem dX6_takeSign_74 : decode cX6_takeSign 74 = .ok (.iconst 0, 1) := by decide +kernel
theorem dX6_takeSign_75 : decode cX6_takeSign 75 = .ok (.ireturn, 1) := by decide +kernel
theorem dX6_takeSign_76 : decode cX6_takeSign 76 = .ok (.aload_n 0, 1) := by decide +kernel
theorem dX6_takeSign_77 : decode cX6_takeSign 77 = .ok (.getfield 31, 3) := by decide +kernel
theorem dX6_takeSign_80 : decode cX6_takeSign 80 = .ok (.aload_n 0, 1) := by decide +kernel
theorem dX6_takeSign_81 : decode cX6_takeSign 81 = .ok (.getfield 137, 3) := by decide +kernel
theorem dX6_takeSign_84 : decode cX6_takeSign 84 = .ok (.iload_n 1, 1) := by decide +kernel
theorem dX6_takeSign_85 : decode cX6_takeSign 85 = .ok (.bipush 40, 2) := by decide +kernel
theorem dX6_takeSign_87 : decode cX6_takeSign 87 = .ok (.if_icmp .ne 7, 3) := by decide +kernel
theorem dX6_takeSign_90 : decode cX6_takeSign 90 = .ok (.iconst 1, 1) := by decide +kernel
theorem dX6_takeSign_91 : decode cX6_takeSign 91 = .ok (.goto 4, 3) := by decide +kernel
theorem dX6_takeSign_94 : decode cX6_takeSign 94 = .ok (.iconst 2, 1) := by decide +kernel
theorem dX6_takeSign_95 : decode cX6_takeSign 95 = .ok (.iastore, 1) := by decide +kernel
theorem dX6_takeSign_96 : decode cX6_takeSign 96 = .ok (.aload_n 0, 1) := by decide +kernel
theorem dX6_takeSign_97 : decode cX6_takeSign 97 = .ok (.dup, 1) := by decide +kernel
theorem dX6_takeSign_98 : decode cX6_takeSign 98 = .ok (.getfield 137, 3) := by decide +kernel
theorem dX6_takeSign_101 : decode cX6_takeSign 101 = .ok (.iconst 1, 1) := by decide +kernel
theorem dX6_takeSign_102 : decode cX6_takeSign 102 = .ok (.iadd, 1) := by decide +kernel
theorem dX6_takeSign_103 : decode cX6_takeSign 103 = .ok (.putfield 137, 3) := by decide +kernel
theorem dX6_takeSign_106 : decode cX6_takeSign 106 = .ok (.aload_n 0, 1) := by decide +kernel
theorem dX6_takeSign_107 : decode cX6_takeSign 107 = .ok (.iconst 0, 1) := by decide +kernel
theorem dX6_takeSign_108 : decode cX6_takeSign 108 = .ok (.putfield 134, 3) := by decide +kernel
theorem dX6_takeSign_111 : decode cX6_takeSign 111 = .ok (.iconst 1, 1) := by decide +kernel
theorem dX6_takeSign_112 : decode cX6_takeSign 112 = .ok (.ireturn, 1) := by decide +kernel
theorem dX6_takeSign_113 : decode cX6_takeSign 113 = .ok (.aload_n 0, 1) := by decide +kernel
theorem dX6_takeSign_114 : decode cX6_takeSign 114 = .ok (.getfield 137, 3) := by decide +kernel
theorem dX6_takeSign_117 : decode cX6_takeSign 117 = .ok (.ifCond .eq 10, 3) := by decide +kernel
theorem dX6_takeSign_120 : decode cX6_takeSign 120 = .ok (.aload_n 0, 1) := by decide +kernel
theorem dX6_takeSign_121 : decode cX6_takeSign 121 = .ok (.getfield 134, 3) := by decide +kernel
theorem dX6_takeSign_124 : decode cX6_takeSign 124 = .ok (.ifCond .ne 5, 3) := by decide +kernel
theorem dX6_takeSign_127 : decode cX6_takeSign 127 = .ok (.iconst 0, 1) := by decide +kernel
theorem dX6_takeSign_128 : decode cX6_takeSign 128 = .ok (.ireturn, 1) := by decide +kernel
theorem dX6_takeSign_129 : decode cX6_takeSign 129 = .ok (.iload_n 1, 1) := by decide +kernel
theorem dX6_takeSign_130 : decode cX6_takeSign 130 = .ok (.bipush 44, 2) := by decide +kernel
theorem dX6_takeSign_132 : decode cX6_takeSign 132 = .ok (.if_icmp .ne 37, 3) := by decide +kernel
theorem dX6_takeSign_135 : decode cX6_takeSign 135 = .ok (.aload_n 0, 1) := by decide +kernel
theorem dX6_takeSign_136 : decode cX6_takeSign 136 = .ok (.getfield 31, 3) := by decide +kernel
theorem dX6_takeSign_139 : decode cX6_takeSign 139 = .ok (.aload_n 0, 1) := by decide +kernel
theorem dX6_takeSign_140 : decode cX6_takeSign 140 = .ok (.getfield 137, 3) := by decide +kernel
theorem dX6_takeSign_143 : decode cX6_takeSign 143 = .ok (.iconst 1, 1) := by decide +kernel
theorem dX6_takeSign_144 : decode cX6_takeSign 144 = .ok (.isub, 1) := by decide +kernel
theorem dX6_takeSign_145 : decode cX6_takeSign 145 = .ok (.iaload, 1) := by decide +kernel
theorem dX6_takeSign_146 : decode cX6_takeSign 146 = .ok (.iconst 2, 1) := by decide +kernel
theorem dX6_takeSign_147 : decode cX6_takeSign 147 = .ok (.if_icmp .ne 22, 3) := by decide +kernel
theorem dX6_takeSign_150 : decode cX6_takeSign 150 = .ok (.aload_n 0, 1) := by decide +kernel
theorem dX6_takeSign_151 : decode cX6_takeSign 151 = .ok (.getfield 31, 3) := by decide +kernel
theorem dX6_takeSign_154 : decode cX6_takeSign 154 = .ok (.aload_n 0, 1) := by decide +kernel
theorem dX6_takeSign_155 : decode cX6_takeSign 155 = .ok (.getfield 137, 3) := by decide +kernel
theorem dX6_takeSign_158 : decode cX6_takeSign 158 = .ok (.iconst 1, 1) := by decide +kernel
theorem dX6_takeSign_159 : decode cX6_takeSign 159 = .ok (.isub, 1) := by decide +kernel
theorem dX6_takeSign_160 : decode cX6_takeSign 160 = .ok (.iconst 3, 1) := by decide +kernel
theorem dX6_takeSign_161 : decode cX6_takeSign 161 = .ok (.iastore, 1) := by decide +kernel
theorem dX6_takeSign_162 : decode cX6_takeSign 162 = .ok (.aload_n 0, 1) := by decide +kernel
theorem dX6_takeSign_163 : decode cX6_takeSign 163 = .ok (.iconst 0, 1) := by decide +kernel
theorem dX6_takeSign_164 : decode cX6_takeSign 164 = .ok (.putfield 134, 3) := by decide +kernel
theorem dX6_takeSign_167 : decode cX6_takeSign 167 = .ok (.iconst 1, 1) := by decide +kernel
theorem dX6_takeSign_168 : decode cX6_takeSign 168 = .ok (.ireturn, 1) := by decide +kernel
theorem dX6_takeSign_169 : decode cX6_takeSign 169 = .ok (.aload_n 0, 1) := by decide +kernel
theorem dX6_takeSign_170 : decode cX6_takeSign 170 = .ok (.iload_n 1, 1) := by decide +kernel
theorem dX6_takeSign_171 : decode cX6_takeSign 171 = .ok (.bipush 41, 2) := by decide +kernel
theorem dX6_takeSign_173 : decode cX6_takeSign 173 = .ok (.if_icmp .ne 22, 3) := by decide +kernel
theorem dX6_takeSign_176 : decode cX6_takeSign 176 = .ok (.aload_n 0, 1) := by decide +kernel
theorem dX6_takeSign_177 : decode cX6_takeSign 177 = .ok (.getfield 31, 3) := by decide +kernel
theorem dX6_takeSign_180 : decode cX6_takeSign 180 = .ok (.aload_n 0, 1) := by decide +kernel
theorem dX6_takeSign_181 : decode cX6_takeSign 181 = .ok (.getfield 137, 3) := by decide +kernel
theorem dX6_takeSign_184 : decode cX6_takeSign 184 = .ok (.iconst 1, 1) := by decide +kernel
theorem dX6_takeSign_185 : decode cX6_takeSign 185 = .ok (.isub, 1) := by decide +kernel
theorem dX6_takeSign_186 : decode cX6_takeSign 186 = .ok (.iaload, 1) := by decide +kernel
theorem dX6_takeSign_187 : decode cX6_takeSign 187 = .ok (.iconst 1, 1) := by decide +kernel
theorem dX6_takeSign_188 : decode cX6_takeSign 188 = .ok (.if_icmp .ne 7, 3) := by decide +kernel
theorem dX6_takeSign_191 : decode cX6_takeSign 191 = .ok (.iconst 1, 1) := by decide +kernel
theorem dX6_takeSign_192 : decode cX6_takeSign 192 = .ok (.goto 4, 3) := by decide +kernel
theorem dX6_takeSign_195 : decode cX6_takeSign 195 = .ok (.iconst 0, 1) := by decide +kernel
theorem dX6_takeSign_196 : decode cX6_takeSign 196 = .ok (.putfield 131, 3) := by decide +kernel
theorem dX6_takeSign_199 : decode cX6_takeSign 199 = .ok (.aload_n 0, 1) := by decide +kernel
theorem dX6_takeSign_200 : decode cX6_takeSign 200 = .ok (.getfield 131, 3) := by decide +kernel
theorem dX6_takeSign_203 : decode cX6_takeSign 203 = .ok (.ifCond .ne 24, 3) := by decide +kernel
theorem dX6_takeSign_206 : decode cX6_takeSign 206 = .ok (.iload_n 1, 1) := by decide +kernel
theorem dX6_takeSign_207 : decode cX6_takeSign 207 = .ok (.bipush 93, 2) := by decide +kernel
theorem dX6_takeSign_209 : decode cX6_takeSign 209 = .ok (.if_icmp .ne 22, 3) := by decide +kernel
theorem dX6_takeSign_212 : decode cX6_takeSign 212 = .ok (.aload_n 0, 1) := by decide +kernel
theorem dX6_takeSign_213 : decode cX6_takeSign 213 = .ok (.getfield 31, 3) := by decide +kernel
theorem dX6_takeSign_216 : decode cX6_takeSign 216 = .ok (.aload_n 0, 1) := by decide +kernel
theorem dX6_takeSign_217 : decode cX6_takeSign 217 = .ok (.getfield 137, 3) := by decide +kernel
theorem dX6_takeSign_220 : decode cX6_takeSign 220 = .ok (.iconst 1, 1) := by decide +kernel
theorem dX6_takeSign_221 : decode cX6_takeSign 221 = .ok (.isub, 1) := by decide +kernel
theorem dX6_takeSign_222 : decode cX6_takeSign 222 = .ok (.iaload, 1) := by decide +kernel
theorem dX6_takeSign_223 : decode cX6_takeSign 223 = .ok (.iconst 3, 1) := by decide +kernel
theorem dX6_takeSign_224 : decode cX6_takeSign 224 = .ok (.if_icmp .ne 7, 3) := by decide +kernel
theorem dX6_takeSign_227 : decode cX6_takeSign 227 = .ok (.iconst 1, 1) := by decide +kernel
theorem dX6_takeSign_228 : decode cX6_takeSign 228 = .ok (.goto 4, 3) := by decide +kernel
theorem dX6_takeSign_231 : decode cX6_takeSign 231 = .ok (.iconst 0, 1) := by decide +kernel
theorem dX6_takeSign_232 : decode cX6_takeSign 232 = .ok (.istore_n 2, 1) := by decide +kernel
theorem dX6_takeSign_233 : decode cX6_takeSign 233 = .ok (.aload_n 0, 1) := by decide +kernel
theorem dX6_takeSign_234 : decode cX6_takeSign 234 = .ok (.dup, 1) := by decide +kernel
theorem dX6_takeSign_235 : decode cX6_takeSign 235 = .ok (.getfield 137, 3) := by decide +kernel
theorem dX6_takeSign_238 : decode cX6_takeSign 238 = .ok (.iload_n 2, 1) := by decide +kernel
theorem dX6_takeSign_239 : decode cX6_takeSign 239 = .ok (.ifCond .eq 7, 3) := by decide +kernel
theorem dX6_takeSign_242 : decode cX6_takeSign 242 = .ok (.iconst 1, 1) := by decide +kernel
theorem dX6_takeSign_243 : decode cX6_takeSign 243 = .ok (.goto 4, 3) := by decide +kernel
theorem dX6_takeSign_246 : decode cX6_takeSign 246 = .ok (.iconst 0, 1) := by decide +kernel
theorem dX6_takeSign_247 : decode cX6_takeSign 247 = .ok (.isub, 1) := by decide +kernel
theorem dX6_takeSign_248 : decode cX6_takeSign 248 = .ok (.putfield 137, 3) := by decide +kernel
theorem dX6_takeSign_251 : decode cX6_takeSign 251 = .ok (.iload_n 2, 1) := by decide +kernel
theorem dX6_takeSign_252 : decode cX6_takeSign 252 = .ok (.ireturn, 1) := by decide +kernel
theorem dX6_findError_0 : decode cX6_findError 0 = .ok (.aload_n 0, 1) := by decide +kernel
theorem dX6_findError_1 : decode cX6_findError 1 = .ok (.iconst 0, 1) := by decide +kernel
theorem dX6_findError_2 : decode cX6_findError 2 = .ok (.putfield 137, 3) := by decide +kernel
theorem dX6_findError_5 : decode cX6_findError 5 = .ok (.aload_n 0, 1) := by decide +kernel
theorem dX6_findError_6 : decode cX6_findError 6 = .ok (.iconst 0, 1) := by decide +kernel
theorem dX6_findError_7 : decode cX6_findError 7 = .ok (.putfield 134, 3) := by decide +kernel
theorem dX6_findError_10 : decode cX6_findError 10 = .ok (.aload_n 0, 1) := by decide +kernel
theorem dX6_findError_11 : decode cX6_findError 11 = .ok (.iconst 0, 1) := by decide +kernel
theorem dX6_findError_12 : decode cX6_findError 12 = .ok (.putfield 131, 3) := by decide +kernel
theorem dX6_findError_15 : decode cX6_findError 15 = .ok (.iconst 0, 1) := by decide +kernel
theorem dX6_findError_16 : decode cX6_findError 16 = .ok (.istore_n 1, 1) := by decide +kernel
theorem dX6_findError_17 : decode cX6_findError 17 = .ok (.iload_n 1, 1) := by decide +kernel
theorem dX6_findError_18 : decode cX6_findError 18 = .ok (.aload_n 0, 1) := by decide +kernel
theorem dX6_findError_19 : decode cX6_findError 19 = .ok (.getfield 113, 3) := by decide +kernel
theorem dX6_findError_22 : decode cX6_findError 22 = .ok (.if_icmp .ge 22, 3) := by decide +kernel
theorem dX6_findError_25 : decode cX6_findError 25 = .ok (.aload_n 0, 1) := by decide +kernel
theorem dX6_findError_26 : decode cX6_findError 26 = .ok (.aload_n 0, 1) := by decide +kernel
theorem dX6_findError_27 : decode cX6_findError 27 = .ok (.getfield 22, 3) := by decide +kernel
theorem dX6_findError_30 : decode cX6_findError 30 = .ok (.iload_n 1, 1) := by decide +kernel
theorem dX6_findError_31 : decode cX6_findError 31 = .ok (.iaload, 1) := by decide +kernel
theorem dX6_findError_32 : decode cX6_findError 32 = .ok (.invokevirtual 140, 3) := by decide +kernel
theorem dX6_findError_35 : decode cX6_findError 35 = .ok (.ifCond .eq 9, 3) := by decide +kernel
theorem dX6_findError_38 : decode cX6_findError 38 = .ok (.iinc 1 1, 3) := by decide +kernel
theorem dX6_findError_41 : decode cX6_findError 41 = .ok (.goto (-24), 3) := by decide +kernel
theorem dX6_findError_44 : decode cX6_findError 44 = .ok (.iload_n 1, 1) := by decide +kernel
theorem dX6_findError_45 : decode cX6_findError 45 = .ok (.ireturn, 1) := by decide +kernel
theorem dX6_firstError_0 : decode cX6_firstError 0 = .ok (.aload_n 0, 1) := by decide +kernel
theorem dX6_firstError_1 : decode cX6_firstError 1 = .ok (.iconst 0, 1) := by decide +kernel
theorem dX6_firstError_2 : decode cX6_firstError 2 = .ok (.putfield 46, 3) := by decide +kernel
theorem dX6_firstError_5 : decode cX6_firstError 5 = .ok (.aload_n 0, 1) := by decide +kernel
theorem dX6_firstError_6 : decode cX6_firstError 6 = .ok (.invokevirtual 143, 3) := by decide +kernel
theorem dX6_firstError_9 : decode cX6_firstError 9 = .ok (.ireturn, 1) := by decide +kernel
theorem dX6_isWhole_0 : decode cX6_isWhole 0 = .ok (.aload_n 0, 1) := by decide +kernel
theorem dX6_isWhole_1 : decode cX6_isWhole 1 = .ok (.invokevirtual 143, 3) := by decide +kernel
theorem dX6_isWhole_4 : decode cX6_isWhole 4 = .ok (.aload_n 0, 1) := by decide +kernel
theorem dX6_isWhole_5 : decode cX6_isWhole 5 = .ok (.getfield 113, 3) := by decide +kernel
theorem dX6_isWhole_8 : decode cX6_isWhole 8 = .ok (.if_icmp .ne 28, 3) := by decide +kernel
theorem dX6_isWhole_11 : decode cX6_isWhole 11 = .ok (.aload_n 0, 1) := by decide +kernel
theorem dX6_isWhole_12 : decode cX6_isWhole 12 = .ok (.getfield 137, 3) := by decide +kernel
theorem dX6_isWhole_15 : decode cX6_isWhole 15 = .ok (.ifCond .ne 21, 3) := by decide +kernel
theorem dX6_isWhole_18 : decode cX6_isWhole 18 = .ok (.aload_n 0, 1) := by decide +kernel
theorem dX6_isWhole_19 : decode cX6_isWhole 19 = .ok (.getfield 134, 3) := by decide +kernel
theorem dX6_isWhole_22 : decode cX6_isWhole 22 = .ok (.ifCond .eq 14, 3) := by decide +kernel
theorem dX6_isWhole_25 : decode cX6_isWhole 25 = .ok (.aload_n 0, 1) := by decide +kernel
theorem dX6_isWhole_26 : decode cX6_isWhole 26 = .ok (.getfield 131, 3) := by decide +kernel
theorem dX6_isWhole_29 : decode cX6_isWhole 29 = .ok (.ifCond .ne 7, 3) := by decide +kernel
theorem dX6_isWhole_32 : decode cX6_isWhole 32 = .ok (.iconst 1, 1) := by decide +kernel
theorem dX6_isWhole_33 : decode cX6_isWhole 33 = .ok (.goto 4, 3) := by decide +kernel
theorem dX6_isWhole_36 : decode cX6_isWhole 36 = .ok (.iconst 0, 1) := by decide +kernel
theorem dX6_isWhole_37 : decode cX6_isWhole 37 = .ok (.ireturn, 1) := by decide +kernel
theorem dX6_addTurn_0 : decode cX6_addTurn 0 = .ok (.aload_n 0, 1) := by decide +kernel
theorem dX6_addTurn_1 : decode cX6_addTurn 1 = .ok (.getfield 110, 3) := by decide +kernel
theorem dX6_addTurn_4 : decode cX6_addTurn 4 = .ok (.sipush 500, 3) := by decide +kernel
theorem dX6_addTurn_7 : decode cX6_addTurn 7 = .ok (.if_icmp .ge 13, 3) := by decide +kernel
theorem dX6_addTurn_10 : decode cX6_addTurn 10 = .ok (.aload_n 0, 1) := by decide +kernel
theorem dX6_addTurn_11 : decode cX6_addTurn 11 = .ok (.getfield 28, 3) := by decide +kernel
theorem dX6_addTurn_14 : decode cX6_addTurn 14 = .ok (.aload_n 0, 1) := by decide +kernel
theorem dX6_addTurn_15 : decode cX6_addTurn 15 = .ok (.getfield 110, 3) := by decide +kernel
theorem dX6_addTurn_18 : decode cX6_addTurn 18 = .ok (.iload_n 1, 1) := by decide +kernel
theorem dX6_addTurn_19 : decode cX6_addTurn 19 = .ok (.iastore, 1) := by decide +kernel
theorem dX6_addTurn_20 : decode cX6_addTurn 20 = .ok (.aload_n 0, 1) := by decide +kernel
theorem dX6_addTurn_21 : decode cX6_addTurn 21 = .ok (.dup, 1) := by decide +kernel
theorem dX6_addTurn_22 : decode cX6_addTurn 22 = .ok (.getfield 110, 3) := by decide +kernel
theorem dX6_addTurn_25 : decode cX6_addTurn 25 = .ok (.iconst 1, 1) := by decide +kernel
theorem dX6_addTurn_26 : decode cX6_addTurn 26 = .ok (.iadd, 1) := by decide +kernel
theorem dX6_addTurn_27 : decode cX6_addTurn 27 = .ok (.putfield 110, 3) := by decide +kernel
theorem dX6_addTurn_30 : decode cX6_addTurn 30 = .ok (.aload_n 0, 1) := by decide +kernel
theorem dX6_addTurn_31 : decode cX6_addTurn 31 = .ok (.dup, 1) := by decide +kernel
theorem dX6_addTurn_32 : decode cX6_addTurn 32 = .ok (.getfield 146, 3) := by decide +kernel
theorem dX6_addTurn_35 : decode cX6_addTurn 35 = .ok (.iload_n 1, 1) := by decide +kernel
theorem dX6_addTurn_36 : decode cX6_addTurn 36 = .ok (.iconst 5, 1) := by decide +kernel
theorem dX6_addTurn_37 : decode cX6_addTurn 37 = .ok (.if_icmp .ge 7, 3) := by decide +kernel
theorem dX6_addTurn_40 : decode cX6_addTurn 40 = .ok (.iconst 1, 1) := by decide +kernel
theorem dX6_addTurn_41 : decode cX6_addTurn 41 = .ok (.goto 4, 3) := by decide +kernel
theorem dX6_addTurn_44 : decode cX6_addTurn 44 = .ok (.iconst (-1), 1) := by decide +kernel
theorem dX6_addTurn_45 : decode cX6_addTurn 45 = .ok (.iadd, 1) := by decide +kernel
theorem dX6_addTurn_46 : decode cX6_addTurn 46 = .ok (.putfield 146, 3) := by decide +kernel
theorem dX6_addTurn_49 : decode cX6_addTurn 49 = .ok (.return_, 1) := by decide +kernel
theorem dX6_addAgain_0 : decode cX6_addAgain 0 = .ok (.iload_n 1, 1) := by decide +kernel
theorem dX6_addAgain_1 : decode cX6_addAgain 1 = .ok (.istore 4, 2) := by decide +kernel
theorem dX6_addAgain_3 : decode cX6_addAgain 3 = .ok (.iload 4, 2) := by decide +kernel
theorem dX6_addAgain_5 : decode cX6_addAgain 5 = .ok (.iload_n 2, 1) := by decide +kernel
theorem dX6_addAgain_6 : decode cX6_addAgain 6 = .ok (.if_icmp .ge 63, 3) := by decide +kernel
theorem dX6_addAgain_9 : decode cX6_addAgain 9 = .ok (.aload_n 0, 1) := by decide +kernel
theorem dX6_addAgain_10 : decode cX6_addAgain 10 = .ok (.getfield 110, 3) := by decide +kernel
theorem dX6_addAgain_13 : decode cX6_addAgain 13 = .ok (.sipush 500, 3) := by decide +kernel
theorem dX6_addAgain_16 : decode cX6_addAgain 16 = .ok (.if_icmp .gt 53, 3) := by decide +kernel
theorem dX6_addAgain_19 : decode cX6_addAgain 19 = .ok (.aload_n 0, 1) := by decide +kernel
theorem dX6_addAgain_20 : decode cX6_addAgain 20 = .ok (.getfield 28, 3) := by decide +kernel
theorem dX6_addAgain_23 : decode cX6_addAgain 23 = .ok (.iload_n 3, 1) := by decide +kernel
theorem dX6_addAgain_24 : decode cX6_addAgain 24 = .ok (.ifCond .eq 14, 3) := by decide +kernel
theorem dX6_addAgain_27 : decode cX6_addAgain 27 = .ok (.iload_n 1, 1) := by decide +kernel
theorem dX6_addAgain_28 : decode cX6_addAgain 28 = .ok (.iload_n 2, 1) := by decide +kernel
theorem dX6_addAgain_29 : decode cX6_addAgain 29 = .ok (.iadd, 1) := by decide +kernel
theorem dX6_addAgain_30 : decode cX6_addAgain 30 = .ok (.iconst 1, 1) := by decide +kernel
theorem dX6_addAgain_31 : decode cX6_addAgain 31 = .ok (.isub, 1) := by decide +kernel
theorem dX6_addAgain_32 : decode cX6_addAgain 32 = .ok (.iload 4, 2) := by decide +kernel
theorem dX6_addAgain_34 : decode cX6_addAgain 34 = .ok (.isub, 1) := by decide +kernel
theorem dX6_addAgain_35 : decode cX6_addAgain 35 = .ok (.goto 5, 3) := by decide +kernel
theorem dX6_addAgain_38 : decode cX6_addAgain 38 = .ok (.iload 4, 2) := by decide +kernel
theorem dX6_addAgain_40 : decode cX6_addAgain 40 = .ok (.iaload, 1) := by decide +kernel
theorem dX6_addAgain_41 : decode cX6_addAgain 41 = .ok (.istore 5, 2) := by decide +kernel
theorem dX6_addAgain_43 : decode cX6_addAgain 43 = .ok (.aload_n 0, 1) := by decide +kernel
theorem dX6_addAgain_44 : decode cX6_addAgain 44 = .ok (.iload_n 3, 1) := by decide +kernel
theorem dX6_addAgain_45 : decode cX6_addAgain 45 = .ok (.ifCond .eq 13, 3) := by decide +kernel
theorem dX6_addAgain_48 : decode cX6_addAgain 48 = .ok (.iload 5, 2) := by decide +kernel
theorem dX6_addAgain_50 : decode cX6_addAgain 50 = .ok (.iconst 5, 1) := by decide +kernel
theorem dX6_addAgain_51 : decode cX6_addAgain 51 = .ok (.iadd, 1) := by decide +kernel
theorem dX6_addAgain_52 : decode cX6_addAgain 52 = .ok (.bipush 10, 2) := by decide +kernel
theorem dX6_addAgain_54 : decode cX6_addAgain 54 = .ok (.irem, 1) := by decide +kernel
theorem dX6_addAgain_55 : decode cX6_addAgain 55 = .ok (.goto 5, 3) := by decide +kernel
theorem dX6_addAgain_58 : decode cX6_addAgain 58 = .ok (.iload 5, 2) := by decide +kernel
theorem dX6_addAgain_60 : decode cX6_addAgain 60 = .ok (.invokevirtual 149, 3) := by decide +kernel
theorem dX6_addAgain_63 : decode cX6_addAgain 63 = .ok (.iinc 4 1, 3) := by decide +kernel
theorem dX6_addAgain_66 : decode cX6_addAgain 66 = .ok (.goto (-63), 3) := by decide +kernel
theorem dX6_addAgain_69 : decode cX6_addAgain 69 = .ok (.return_, 1) := by decide +kernel
theorem dX6_readWord_0 : decode cX6_readWord 0 = .ok (.aload_n 0, 1) := by decide +kernel
theorem dX6_readWord_1 : decode cX6_readWord 1 = .ok (.iconst 0, 1) := by decide +kernel
theorem dX6_readWord_2 : decode cX6_readWord 2 = .ok (.putfield 110, 3) := by decide +kernel
theorem dX6_readWord_5 : decode cX6_readWord 5 = .ok (.aload_n 0, 1) := by decide +kernel
theorem dX6_readWord_6 : decode cX6_readWord 6 = .ok (.iconst 0, 1) := by decide +kernel
theorem dX6_readWord_7 : decode cX6_readWord 7 = .ok (.putfield 146, 3) := by decide +kernel
theorem dX6_readWord_10 : decode cX6_readWord 10 = .ok (.aload_n 0, 1) := by decide +kernel
theorem dX6_readWord_11 : decode cX6_readWord 11 = .ok (.iconst 0, 1) := by decide +kernel
theorem dX6_readWord_12 : decode cX6_readWord 12 = .ok (.putfield 137, 3) := by decide +kernel
theorem dX6_readWord_15 : decode cX6_readWord 15 = .ok (.iconst 0, 1) := by decide +kernel
theorem dX6_readWord_16 : decode cX6_readWord 16 = .ok (.istore_n 1, 1) := by decide +kernel
theorem dX6_readWord_17 : decode cX6_readWord 17 = .ok (.iload_n 1, 1) := by decide +kernel
theorem dX6_readWord_18 : decode cX6_readWord 18 = .ok (.aload_n 0, 1) := by decide +kernel
theorem dX6_readWord_19 : decode cX6_readWord 19 = .ok (.getfield 113, 3) := by decide +kernel
theorem dX6_readWord_22 : decode cX6_readWord 22 = .ok (.if_icmp .ge 259, 3) := by decide +kernel
theorem dX6_readWord_25 : decode cX6_readWord 25 = .ok (.aload_n 0, 1) := by decide +kernel
theorem dX6_readWord_26 : decode cX6_readWord 26 = .ok (.getfield 22, 3) := by decide +kernel
theorem dX6_readWord_29 : decode cX6_readWord 29 = .ok (.iload_n 1, 1) := by decide +kernel
theorem dX6_readWord_30 : decode cX6_readWord 30 = .ok (.iaload, 1) := by decide +kernel
theorem dX6_readWord_31 : decode cX6_readWord 31 = .ok (.istore_n 2, 1) := by decide +kernel
theorem dX6_readWord_32 : decode cX6_readWord 32 = .ok (.iload_n 2, 1) := by decide +kernel
theorem dX6_readWord_33 : decode cX6_readWord 33 = .ok (.bipush 40, 2) := by decide +kernel
theorem dX6_readWord_35 : decode cX6_readWord 35 = .ok (.if_icmp .eq 9, 3) := by decide +kernel
theorem dX6_readWord_38 : decode cX6_readWord 38 = .ok (.iload_n 2, 1) := by decide +kernel
theorem dX6_readWord_39 : decode cX6_readWord 39 = .ok (.bipush 91, 2) := by decide +kernel
theorem dX6_readWord_41 : decode cX6_readWord 41 = .ok (.if_icmp .ne 29, 3) := by decide +kernel
theorem dX6_readWord_44 : decode cX6_readWord 44 = .ok (.aload_n 0, 1) := by decide +kernel
theorem dX6_readWord_45 : decode cX6_readWord 45 = .ok (.getfield 34, 3) := by decide +kernel
theorem dX6_readWord_48 : decode cX6_readWord 48 = .ok (.aload_n 0, 1) := by decide +kernel
theorem dX6_readWord_49 : decode cX6_readWord 49 = .ok (.getfield 137, 3) := by decide +kernel
theorem dX6_readWord_52 : decode cX6_readWord 52 = .ok (.aload_n 0, 1) := by decide +kernel
theorem dX6_readWord_53 : decode cX6_readWord 53 = .ok (.getfield 110, 3) := by decide +kernel
theorem dX6_readWord_56 : decode cX6_readWord 56 = .ok (.iastore, 1) := by decide +kernel
theorem dX6_readWord_57 : decode cX6_readWord 57 = .ok (.aload_n 0, 1) := by decide +kernel
theorem dX6_readWord_58 : decode cX6_readWord 58 = .ok (.dup, 1) := by decide +kernel
theorem dX6_readWord_59 : decode cX6_readWord 59 = .ok (.getfield 137, 3) := by decide +kernel
theorem dX6_readWord_62 : decode cX6_readWord 62 = .ok (.iconst 1, 1) := by decide +kernel
theorem dX6_readWord_63 : decode cX6_readWord 63 = .ok (.iadd, 1) := by decide +kernel
theorem dX6_readWord_64 : decode cX6_readWord 64 = .ok (.putfield 137, 3) := by decide +kernel
theorem dX6_readWord_67 : decode cX6_readWord 67 = .ok (.goto 194, 3) := by decide +kernel
theorem dX6_readWord_70 : decode cX6_readWord 70 = .ok (.iload_n 2, 1) := by decide +kernel
theorem dX6_readWord_71 : decode cX6_readWord 71 = .ok (.bipush 44, 2) := by decide +kernel
theorem dX6_readWord_73 : decode cX6_readWord 73 = .ok (.if_icmp .ne 21, 3) := by decide +kernel
theorem dX6_readWord_76 : decode cX6_readWord 76 = .ok (.aload_n 0, 1) := by decide +kernel
theorem dX6_readWord_77 : decode cX6_readWord 77 = .ok (.getfield 37, 3) := by decide +kernel
theorem dX6_readWord_80 : decode cX6_readWord 80 = .ok (.aload_n 0, 1) := by decide +kernel
theorem dX6_readWord_81 : decode cX6_readWord 81 = .ok (.getfield 137, 3) := by decide +kernel
theorem dX6_readWord_84 : decode cX6_readWord 84 = .ok (.iconst 1, 1) := by decide +kernel
theorem dX6_readWord_85 : decode cX6_readWord 85 = .ok (.isub, 1) := by decide +kernel
theorem dX6_readWord_86 : decode cX6_readWord 86 = .ok (.aload_n 0, 1) := by decide +kernel
theorem dX6_readWord_87 : decode cX6_readWord 87 = .ok (.getfield 110, 3) := by decide +kernel
theorem dX6_readWord_90 : decode cX6_readWord 90 = .ok (.iastore, 1) := by decide +kernel
theorem dX6_readWord_91 : decode cX6_readWord 91 = .ok (.goto 170, 3) := by decide +kernel
theorem dX6_readWord_94 : decode cX6_readWord 94 = .ok (.iload_n 2, 1) := by decide +kernel
theorem dX6_readWord_95 : decode cX6_readWord 95 = .ok (.bipush 41, 2) := by decide +kernel
theorem dX6_readWord_97 : decode cX6_readWord 97 = .ok (.if_icmp .ne 74, 3) := by decide +kernel
theorem dX6_readWord_100 : decode cX6_readWord 100 = .ok (.aload_n 0, 1) := by decide +kernel
theorem dX6_readWord_101 : decode cX6_readWord 101 = .ok (.dup, 1) := by decide +kernel
theorem dX6_readWord_102 : decode cX6_readWord 102 = .ok (.getfield 137, 3) := by decide +kernel
theorem dX6_readWord_105 : decode cX6_readWord 105 = .ok (.iconst 1, 1) := by decide +kernel
theorem dX6_readWord_106 : decode cX6_readWord 106 = .ok (.isub, 1) := by decide +kernel
theorem dX6_readWord_107 : decode cX6_readWord 107 = .ok (.putfield 137, 3) := by decide +kernel
theorem dX6_readWord_110 : decode cX6_readWord 110 = .ok (.aload_n 0, 1) := by decide +kernel
theorem dX6_readWord_111 : decode cX6_readWord 111 = .ok (.getfield 110, 3) := by decide +kernel
theorem dX6_readWord_114 : decode cX6_readWord 114 = .ok (.istore_n 3, 1) := by decide +kernel
theorem dX6_readWord_115 : decode cX6_readWord 115 = .ok (.aload_n 0, 1) := by decide +kernel
theorem dX6_readWord_116 : decode cX6_readWord 116 = .ok (.getfield 22, 3) := by decide +kernel
theorem dX6_readWord_119 : decode cX6_readWord 119 = .ok (.iload_n 1, 1) := by decide +kernel
theorem dX6_readWord_120 : decode cX6_readWord 120 = .ok (.iconst 1, 1) := by decide +kernel
theorem dX6_readWord_121 : decode cX6_readWord 121 = .ok (.iadd, 1) := by decide +kernel
theorem dX6_readWord_122 : decode cX6_readWord 122 = .ok (.iaload, 1) := by decide +kernel
theorem dX6_readWord_123 : decode cX6_readWord 123 = .ok (.bipush 48, 2) := by decide +kernel
theorem dX6_readWord_125 : decode cX6_readWord 125 = .ok (.isub, 1) := by decide +kernel
theorem dX6_readWord_126 : decode cX6_readWord 126 = .ok (.istore 4, 2) := by decide +kernel
theorem dX6_readWord_128 : decode cX6_readWord 128 = .ok (.iload 4, 2) := by decide +kernel
theorem dX6_readWord_130 : decode cX6_readWord 130 = .ok (.iconst 1, 1) := by decide +kernel
theorem dX6_readWord_131 : decode cX6_readWord 131 = .ok (.if_icmp .le 34, 3) := by decide +kernel
theorem dX6_readWord_134 : decode cX6_readWord 134 = .ok (.aload_n 0, 1) := by decide +kernel
theorem dX6_readWord_135 : decode cX6_readWord 135 = .ok (.getfield 110, 3) := by decide +kernel
theorem dX6_readWord_138 : decode cX6_readWord 138 = .ok (.sipush 500, 3) := by decide +kernel
theorem dX6_readWord_141 : decode cX6_readWord 141 = .ok (.if_icmp .gt 24, 3) := by decide +kernel
theorem dX6_readWord_144 : decode cX6_readWord 144 = .ok (.aload_n 0, 1) := by decide +kernel
theorem dX6_readWord_145 : decode cX6_readWord 145 = .ok (.aload_n 0, 1) := by decide +kernel
theorem dX6_readWord_146 : decode cX6_readWord 146 = .ok (.getfield 34, 3) := by decide +kernel
theorem dX6_readWord_149 : decode cX6_readWord 149 = .ok (.aload_n 0, 1) := by decide +kernel
theorem dX6_readWord_150 : decode cX6_readWord 150 = .ok (.getfield 137, 3) := by decide +kernel
theorem dX6_readWord_153 : decode cX6_readWord 153 = .ok (.iaload, 1) := by decide +kernel
theorem dX6_readWord_154 : decode cX6_readWord 154 = .ok (.iload_n 3, 1) := by decide +kernel
theorem dX6_readWord_155 : decode cX6_readWord 155 = .ok (.iconst 0, 1) := by decide +kernel
theorem dX6_readWord_156 : decode cX6_readWord 156 = .ok (.invokevirtual 152, 3) := by decide +kernel
theorem dX6_readWord_159 : decode cX6_readWord 159 = .ok (.iinc 4 (-1), 3) := by decide +kernel
theorem dX6_readWord_162 : decode cX6_readWord 162 = .ok (.goto (-34), 3) := by decide +kernel
theorem dX6_readWord_165 : decode cX6_readWord 165 = .ok (.iinc 1 1, 3) := by decide +kernel
theorem dX6_readWord_168 : decode cX6_readWord 168 = .ok (.goto 93, 3) := by decide +kernel
theorem dX6_readWord_171 : decode cX6_readWord 171 = .ok (.iload_n 2, 1) := by decide +kernel
theorem dX6_readWord_172 : decode cX6_readWord 172 = .ok (.bipush 93, 2) := by decide +kernel
theorem dX6_readWord_174 : decode cX6_readWord 174 = .ok (.if_icmp .ne 59, 3) := by decide +kernel
theorem dX6_readWord_177 : decode cX6_readWord 177 = .ok (.aload_n 0, 1) := by decide +kernel
theorem dX6_readWord_178 : decode cX6_readWord 178 = .ok (.dup, 1) := by decide +kernel
theorem dX6_readWord_179 : decode cX6_readWord 179 = .ok (.getfield 137, 3) := by decide +kernel
theorem dX6_readWord_182 : decode cX6_readWord 182 = .ok (.iconst 1, 1) := by decide +kernel
theorem dX6_readWord_183 : decode cX6_readWord 183 = .ok (.isub, 1) := by decide +kernel
theorem dX6_readWord_184 : decode cX6_readWord 184 = .ok (.putfield 137, 3) := by decide +kernel
theorem dX6_readWord_187 : decode cX6_readWord 187 = .ok (.aload_n 0, 1) := by decide +kernel
theorem dX6_readWord_188 : decode cX6_readWord 188 = .ok (.getfield 110, 3) := by decide +kernel
theorem dX6_readWord_191 : decode cX6_readWord 191 = .ok (.istore_n 3, 1) := by decide +kernel
theorem dX6_readWord_192 : decode cX6_readWord 192 = .ok (.aload_n 0, 1) := by decide +kernel
theorem dX6_readWord_193 : decode cX6_readWord 193 = .ok (.aload_n 0, 1) := by decide +kernel
theorem dX6_readWord_194 : decode cX6_readWord 194 = .ok (.getfield 34, 3) := by decide +kernel
theorem dX6_readWord_197 : decode cX6_readWord 197 = .ok (.aload_n 0, 1) := by decide +kernel
theorem dX6_readWord_198 : decode cX6_readWord 198 = .ok (.getfield 137, 3) := by decide +kernel
theorem dX6_readWord_201 : decode cX6_readWord 201 = .ok (.iaload, 1) := by decide +kernel
theorem dX6_readWord_202 : decode cX6_readWord 202 = .ok (.aload_n 0, 1) := by decide +kernel
theorem dX6_readWord_203 : decode cX6_readWord 203 = .ok (.getfield 37, 3) := by decide +kernel
theorem dX6_readWord_206 : decode cX6_readWord 206 = .ok (.aload_n 0, 1) := by decide +kernel
theorem dX6_readWord_207 : decode cX6_readWord 207 = .ok (.getfield 137, 3) := by decide +kernel
theorem dX6_readWord_210 : decode cX6_readWord 210 = .ok (.iaload, 1) := by decide +kernel
theorem dX6_readWord_211 : decode cX6_readWord 211 = .ok (.iconst 1, 1) := by decide +kernel
theorem dX6_readWord_212 : decode cX6_readWord 212 = .ok (.invokevirtual 152, 3) := by decide +kernel
theorem dX6_readWord_215 : decode cX6_readWord 215 = .ok (.aload_n 0, 1) := by decide +kernel
theorem dX6_readWord_216 : decode cX6_readWord 216 = .ok (.aload_n 0, 1) := by decide +kernel
theorem dX6_readWord_217 : decode cX6_readWord 217 = .ok (.getfield 37, 3) := by decide +kernel
theorem dX6_readWord_220 : decode cX6_readWord 220 = .ok (.aload_n 0, 1) := by decide +kernel
theorem dX6_readWord_221 : decode cX6_readWord 221 = .ok (.getfield 137, 3) := by decide +kernel
theorem dX6_readWord_224 : decode cX6_readWord 224 = .ok (.iaload, 1) := by decide +kernel
theorem dX6_readWord_225 : decode cX6_readWord 225 = .ok (.iload_n 3, 1) := by decide +kernel
theorem dX6_readWord_226 : decode cX6_readWord 226 = .ok (.iconst 1, 1) := by decide +kernel
theorem dX6_readWord_227 : decode cX6_readWord 227 = .ok (.invokevirtual 152, 3) := by decide +kernel
theorem dX6_readWord_230 : decode cX6_readWord 230 = .ok (.goto 31, 3) := by decide +kernel
theorem dX6_readWord_233 : decode cX6_readWord 233 = .ok (.aload_n 0, 1) := by decide +kernel
theorem dX6_readWord_234 : decode cX6_readWord 234 = .ok (.iload_n 2, 1) := by decide +kernel
theorem dX6_readWord_235 : decode cX6_readWord 235 = .ok (.bipush 97, 2) := by decide +kernel
theorem dX6_readWord_237 : decode cX6_readWord 237 = .ok (.bipush 101, 2) := by decide +kernel
theorem dX6_readWord_239 : decode cX6_readWord 239 = .ok (.invokestatic 50, 3) := by decide +kernel
theorem dX6_readWord_242 : decode cX6_readWord 242 = .ok (.ifCond .eq 10, 3) := by decide +kernel
theorem dX6_readWord_245 : decode cX6_readWord 245 = .ok (.iload_n 2, 1) := by decide +kernel
theorem dX6_readWord_246 : decode cX6_readWord 246 = .ok (.bipush 97, 2) := by decide +kernel
theorem dX6_readWord_248 : decode cX6_readWord 248 = .ok (.isub, 1) := by decide +kernel
theorem dX6_readWord_249 : decode cX6_readWord 249 = .ok (.goto 9, 3) := by decide +kernel
theorem dX6_readWord_252 : decode cX6_readWord 252 = .ok (.iconst 5, 1) := by decide +kernel
theorem dX6_readWord_253 : decode cX6_readWord 253 = .ok (.iload_n 2, 1) := by decide +kernel
theorem dX6_readWord_254 : decode cX6_readWord 254 = .ok (.iadd, 1) := by decide +kernel
theorem dX6_readWord_255 : decode cX6_readWord 255 = .ok (.bipush 65, 2) := by decide +kernel
theorem dX6_readWord_257 : decode cX6_readWord 257 = .ok (.isub, 1) := by decide +kernel
theorem dX6_readWord_258 : decode cX6_readWord 258 = .ok (.invokevirtual 149, 3) := by decide +kernel
theorem dX6_readWord_261 : decode cX6_readWord 261 = .ok (.aload_n 0, 1) := by decide +kernel
theorem dX6_readWord_262 : decode cX6_readWord 262 = .ok (.getfield 110, 3) := by decide +kernel
theorem dX6_readWord_265 : decode cX6_readWord 265 = .ok (.sipush 500, 3) := by decide +kernel
theorem dX6_readWord_268 : decode cX6_readWord 268 = .ok (.if_icmp .le 7, 3) := by decide +kernel
theorem dX6_readWord_271 : decode cX6_readWord 271 = .ok (.sipush 501, 3) := by decide +kernel
theorem dX6_readWord_274 : decode cX6_readWord 274 = .ok (.ireturn, 1) := by decide +kernel
theorem dX6_readWord_275 : decode cX6_readWord 275 = .ok (.iinc 1 1, 3) := by decide +kernel
theorem dX6_readWord_278 : decode cX6_readWord 278 = .ok (.goto (-261), 3) := by decide +kernel
theorem dX6_readWord_281 : decode cX6_readWord 281 = .ok (.aload_n 0, 1) := by decide +kernel
theorem dX6_readWord_282 : decode cX6_readWord 282 = .ok (.getfield 110, 3) := by decide +kernel
theorem dX6_readWord_285 : decode cX6_readWord 285 = .ok (.ireturn, 1) := by decide +kernel
theorem dX6_countTurns_0 : decode cX6_countTurns 0 = .ok (.iconst 0, 1) := by decide +kernel
theorem dX6_countTurns_1 : decode cX6_countTurns 1 = .ok (.istore_n 1, 1) := by decide +kernel
theorem dX6_countTurns_2 : decode cX6_countTurns 2 = .ok (.aload_n 0, 1) := by decide +kernel
theorem dX6_countTurns_3 : decode cX6_countTurns 3 = .ok (.iconst 0, 1) := by decide +kernel
theorem dX6_countTurns_4 : decode cX6_countTurns 4 = .ok (.putfield 137, 3) := by decide +kernel
theorem dX6_countTurns_7 : decode cX6_countTurns 7 = .ok (.iconst 0, 1) := by decide +kernel
theorem dX6_countTurns_8 : decode cX6_countTurns 8 = .ok (.istore_n 2, 1) := by decide +kernel
theorem dX6_countTurns_9 : decode cX6_countTurns 9 = .ok (.iload_n 2, 1) := by decide +kernel
theorem dX6_countTurns_10 : decode cX6_countTurns 10 = .ok (.aload_n 0, 1) := by decide +kernel
theorem dX6_countTurns_11 : decode cX6_countTurns 11 = .ok (.getfield 113, 3) := by decide +kernel
theorem dX6_countTurns_14 : decode cX6_countTurns 14 = .ok (.if_icmp .ge 178, 3) := by decide +kernel
theorem dX6_countTurns_17 : decode cX6_countTurns 17 = .ok (.aload_n 0, 1) := by decide +kernel
theorem dX6_countTurns_18 : decode cX6_countTurns 18 = .ok (.getfield 22, 3) := by decide +kernel
theorem dX6_countTurns_21 : decode cX6_countTurns 21 = .ok (.iload_n 2, 1) := by decide +kernel
theorem dX6_countTurns_22 : decode cX6_countTurns 22 = .ok (.iaload, 1) := by decide +kernel
theorem dX6_countTurns_23 : decode cX6_countTurns 23 = .ok (.istore_n 3, 1) := by decide +kernel
theorem dX6_countTurns_24 : decode cX6_countTurns 24 = .ok (.iload_n 3, 1) := by decide +kernel
theorem dX6_countTurns_25 : decode cX6_countTurns 25 = .ok (.bipush 40, 2) := by decide +kernel
theorem dX6_countTurns_27 : decode cX6_countTurns 27 = .ok (.if_icmp .eq 9, 3) := by decide +kernel
theorem dX6_countTurns_30 : decode cX6_countTurns 30 = .ok (.iload_n 3, 1) := by decide +kernel
theorem dX6_countTurns_31 : decode cX6_countTurns 31 = .ok (.bipush 91, 2) := by decide +kernel
theorem dX6_countTurns_33 : decode cX6_countTurns 33 = .ok (.if_icmp .ne 38, 3) := by decide +kernel
theorem dX6_countTurns_36 : decode cX6_countTurns 36 = .ok (.aload_n 0, 1) := by decide +kernel
theorem dX6_countTurns_37 : decode cX6_countTurns 37 = .ok (.getfield 40, 3) := by decide +kernel
theorem dX6_countTurns_40 : decode cX6_countTurns 40 = .ok (.aload_n 0, 1) := by decide +kernel
theorem dX6_countTurns_41 : decode cX6_countTurns 41 = .ok (.getfield 137, 3) := by decide +kernel
theorem dX6_countTurns_44 : decode cX6_countTurns 44 = .ok (.iload_n 1, 1) := by decide +kernel
theorem dX6_countTurns_45 : decode cX6_countTurns 45 = .ok (.iastore, 1) := by decide +kernel
theorem dX6_countTurns_46 : decode cX6_countTurns 46 = .ok (.aload_n 0, 1) := by decide +kernel
theorem dX6_countTurns_47 : decode cX6_countTurns 47 = .ok (.getfield 43, 3) := by decide +kernel
theorem dX6_countTurns_50 : decode cX6_countTurns 50 = .ok (.aload_n 0, 1) := by decide +kernel
theorem dX6_countTurns_51 : decode cX6_countTurns 51 = .ok (.getfield 137, 3) := by decide +kernel
theorem dX6_countTurns_54 : decode cX6_countTurns 54 = .ok (.iconst 0, 1) := by decide +kernel
theorem dX6_countTurns_55 : decode cX6_countTurns 55 = .ok (.iastore, 1) := by decide +kernel
theorem dX6_countTurns_56 : decode cX6_countTurns 56 = .ok (.aload_n 0, 1) := by decide +kernel
theorem dX6_countTurns_57 : decode cX6_countTurns 57 = .ok (.dup, 1) := by decide +kernel
theorem dX6_countTurns_58 : decode cX6_countTurns 58 = .ok (.getfield 137, 3) := by decide +kernel
theorem dX6_countTurns_61 : decode cX6_countTurns 61 = .ok (.iconst 1, 1) := by decide +kernel
theorem dX6_countTurns_62 : decode cX6_countTurns 62 = .ok (.iadd, 1) := by decide +kernel
theorem dX6_countTurns_63 : decode cX6_countTurns 63 = .ok (.putfield 137, 3) := by decide +kernel
theorem dX6_countTurns_66 : decode cX6_countTurns 66 = .ok (.iconst 0, 1) := by decide +kernel
theorem dX6_countTurns_67 : decode cX6_countTurns 67 = .ok (.istore_n 1, 1) := by decide +kernel
theorem dX6_countTurns_68 : decode cX6_countTurns 68 = .ok (.goto 118, 3) := by decide +kernel
theorem dX6_countTurns_71 : decode cX6_countTurns 71 = .ok (.iload_n 3, 1) := by decide +kernel
theorem dX6_countTurns_72 : decode cX6_countTurns 72 = .ok (.bipush 41, 2) := by decide +kernel
theorem dX6_countTurns_74 : decode cX6_countTurns 74 = .ok (.if_icmp .ne 43, 3) := by decide +kernel
theorem dX6_countTurns_77 : decode cX6_countTurns 77 = .ok (.aload_n 0, 1) := by decide +kernel
theorem dX6_countTurns_78 : decode cX6_countTurns 78 = .ok (.dup, 1) := by decide +kernel
theorem dX6_countTurns_79 : decode cX6_countTurns 79 = .ok (.getfield 137, 3) := by decide +kernel
theorem dX6_countTurns_82 : decode cX6_countTurns 82 = .ok (.iconst 1, 1) := by decide +kernel
theorem dX6_countTurns_83 : decode cX6_countTurns 83 = .ok (.isub, 1) := by decide +kernel
theorem dX6_countTurns_84 : decode cX6_countTurns 84 = .ok (.putfield 137, 3) := by decide +kernel
theorem dX6_countTurns_87 : decode cX6_countTurns 87 = .ok (.aload_n 0, 1) := by decide +kernel
theorem dX6_countTurns_88 : decode cX6_countTurns 88 = .ok (.getfield 40, 3) := by decide +kernel
theorem dX6_countTurns_91 : decode cX6_countTurns 91 = .ok (.aload_n 0, 1) := by decide +kernel
theorem dX6_countTurns_92 : decode cX6_countTurns 92 = .ok (.getfield 137, 3) := by decide +kernel
theorem dX6_countTurns_95 : decode cX6_countTurns 95 = .ok (.iaload, 1) := by decide +kernel
theorem dX6_countTurns_96 : decode cX6_countTurns 96 = .ok (.iload_n 1, 1) := by decide +kernel
theorem dX6_countTurns_97 : decode cX6_countTurns 97 = .ok (.aload_n 0, 1) := by decide +kernel
theorem dX6_countTurns_98 : decode cX6_countTurns 98 = .ok (.getfield 22, 3) := by decide +kernel
theorem dX6_countTurns_101 : decode cX6_countTurns 101 = .ok (.iload_n 2, 1) := by decide +kernel
theorem dX6_countTurns_102 : decode cX6_countTurns 102 = .ok (.iconst 1, 1) := by decide +kernel
theorem dX6_countTurns_103 : decode cX6_countTurns 103 = .ok (.iadd, 1) := by decide +kernel
theorem dX6_countTurns_104 : decode cX6_countTurns 104 = .ok (.iaload, 1) := by decide +kernel
theorem dX6_countTurns_105 : decode cX6_countTurns 105 = .ok (.bipush 48, 2) := by decide +kernel
theorem dX6_countTurns_107 : decode cX6_countTurns 107 = .ok (.isub, 1) := by decide +kernel
theorem dX6_countTurns_108 : decode cX6_countTurns 108 = .ok (.imul, 1) := by decide +kernel
theorem dX6_countTurns_109 : decode cX6_countTurns 109 = .ok (.iadd, 1) := by decide +kernel
theorem dX6_countTurns_110 : decode cX6_countTurns 110 = .ok (.istore_n 1, 1) := by decide +kernel
theorem dX6_countTurns_111 : decode cX6_countTurns 111 = .ok (.iinc 2 1, 3) := by decide +kernel
theorem dX6_countTurns_114 : decode cX6_countTurns 114 = .ok (.goto 72, 3) := by decide +kernel
theorem dX6_countTurns_117 : decode cX6_countTurns 117 = .ok (.iload_n 3, 1) := by decide +kernel
theorem dX6_countTurns_118 : decode cX6_countTurns 118 = .ok (.bipush 44, 2) := by decide +kernel
theorem dX6_countTurns_120 : decode cX6_countTurns 120 = .ok (.if_icmp .ne 20, 3) := by decide +kernel
theorem dX6_countTurns_123 : decode cX6_countTurns 123 = .ok (.aload_n 0, 1) := by decide +kernel
theorem dX6_countTurns_124 : decode cX6_countTurns 124 = .ok (.getfield 43, 3) := by decide +kernel
theorem dX6_countTurns_127 : decode cX6_countTurns 127 = .ok (.aload_n 0, 1) := by decide +kernel
theorem dX6_countTurns_128 : decode cX6_countTurns 128 = .ok (.getfield 137, 3) := by decide +kernel
theorem dX6_countTurns_131 : decode cX6_countTurns 131 = .ok (.iconst 1, 1) := by decide +kernel
theorem dX6_countTurns_132 : decode cX6_countTurns 132 = .ok (.isub, 1) := by decide +kernel
theorem dX6_countTurns_133 : decode cX6_countTurns 133 = .ok (.iload_n 1, 1) := by decide +kernel
theorem dX6_countTurns_134 : decode cX6_countTurns 134 = .ok (.iastore, 1) := by decide +kernel
theorem dX6_countTurns_135 : decode cX6_countTurns 135 = .ok (.iconst 0, 1) := by decide +kernel
theorem dX6_countTurns_136 : decode cX6_countTurns 136 = .ok (.istore_n 1, 1) := by decide +kernel
theorem dX6_countTurns_137 : decode cX6_countTurns 137 = .ok (.goto 49, 3) := by decide +kernel
theorem dX6_countTurns_140 : decode cX6_countTurns 140 = .ok (.iload_n 3, 1) := by decide +kernel
theorem dX6_countTurns_141 : decode cX6_countTurns 141 = .ok (.bipush 93, 2) := by decide +kernel
theorem dX6_countTurns_143 : decode cX6_countTurns 143 = .ok (.if_icmp .ne 40, 3) := by decide +kernel
theorem dX6_countTurns_146 : decode cX6_countTurns 146 = .ok (.aload_n 0, 1) := by decide +kernel
theorem dX6_countTurns_147 : decode cX6_countTurns 147 = .ok (.dup, 1) := by decide +kernel
theorem dX6_countTurns_148 : decode cX6_countTurns 148 = .ok (.getfield 137, 3) := by decide +kernel
theorem dX6_countTurns_151 : decode cX6_countTurns 151 = .ok (.iconst 1, 1) := by decide +kernel
theorem dX6_countTurns_152 : decode cX6_countTurns 152 = .ok (.isub, 1) := by decide +kernel
theorem dX6_countTurns_153 : decode cX6_countTurns 153 = .ok (.putfield 137, 3) := by decide +kernel
theorem dX6_countTurns_156 : decode cX6_countTurns 156 = .ok (.aload_n 0, 1) := by decide +kernel
theorem dX6_countTurns_157 : decode cX6_countTurns 157 = .ok (.getfield 40, 3) := by decide +kernel
theorem dX6_countTurns_160 : decode cX6_countTurns 160 = .ok (.aload_n 0, 1) := by decide +kernel
theorem dX6_countTurns_161 : decode cX6_countTurns 161 = .ok (.getfield 137, 3) := by decide +kernel
theorem dX6_countTurns_164 : decode cX6_countTurns 164 = .ok (.iaload, 1) := by decide +kernel
theorem dX6_countTurns_165 : decode cX6_countTurns 165 = .ok (.iconst 2, 1) := by decide +kernel
theorem dX6_countTurns_166 : decode cX6_countTurns 166 = .ok (.aload_n 0, 1) := by decide +kernel
theorem dX6_countTurns_167 : decode cX6_countTurns 167 = .ok (.getfield 43, 3) := by decide +kernel
theorem dX6_countTurns_170 : decode cX6_countTurns 170 = .ok (.aload_n 0, 1) := by decide +kernel
theorem dX6_countTurns_171 : decode cX6_countTurns 171 = .ok (.getfield 137, 3) := by decide +kernel
theorem dX6_countTurns_174 : decode cX6_countTurns 174 = .ok (.iaload, 1) := by decide +kernel
theorem dX6_countTurns_175 : decode cX6_countTurns 175 = .ok (.iload_n 1, 1) := by decide +kernel
theorem dX6_countTurns_176 : decode cX6_countTurns 176 = .ok (.iadd, 1) := by decide +kernel
theorem dX6_countTurns_177 : decode cX6_countTurns 177 = .ok (.imul, 1) := by decide +kernel
theorem dX6_countTurns_178 : decode cX6_countTurns 178 = .ok (.iadd, 1) := by decide +kernel
theorem dX6_countTurns_179 : decode cX6_countTurns 179 = .ok (.istore_n 1, 1) := by decide +kernel
theorem dX6_countTurns_180 : decode cX6_countTurns 180 = .ok (.goto 6, 3) := by decide +kernel
theorem dX6_countTurns_183 : decode cX6_countTurns 183 = .ok (.iinc 1 1, 3) := by decide +kernel
theorem dX6_countTurns_186 : decode cX6_countTurns 186 = .ok (.iinc 2 1, 3) := by decide +kernel
theorem dX6_countTurns_189 : decode cX6_countTurns 189 = .ok (.goto (-180), 3) := by decide +kernel
theorem dX6_countTurns_192 : decode cX6_countTurns 192 = .ok (.iload_n 1, 1) := by decide +kernel
theorem dX6_countTurns_193 : decode cX6_countTurns 193 = .ok (.sipush 9999, 3) := by decide +kernel
theorem dX6_countTurns_196 : decode cX6_countTurns 196 = .ok (.if_icmp .le 9, 3) := by decide +kernel
theorem dX6_countTurns_199 : decode cX6_countTurns 199 = .ok (.sipush 9999, 3) := by decide +kernel
theorem dX6_countTurns_202 : decode cX6_countTurns 202 = .ok (.goto 4, 3) := by decide +kernel
theorem dX6_countTurns_205 : decode cX6_countTurns 205 = .ok (.iload_n 1, 1) := by decide +kernel
theorem dX6_countTurns_206 : decode cX6_countTurns 206 = .ok (.ireturn, 1) := by decide +kernel
theorem dX6_keysAt_0 : decode cX6_keysAt 0 = .ok (.iconst 0, 1) := by decide +kernel
theorem dX6_keysAt_1 : decode cX6_keysAt 1 = .ok (.istore_n 2, 1) := by decide +kernel
theorem dX6_keysAt_2 : decode cX6_keysAt 2 = .ok (.iconst 0, 1) := by decide +kernel
theorem dX6_keysAt_3 : decode cX6_keysAt 3 = .ok (.istore_n 3, 1) := by decide +kernel
theorem dX6_keysAt_4 : decode cX6_keysAt 4 = .ok (.iload_n 3, 1) := by decide +kernel
theorem dX6_keysAt_5 : decode cX6_keysAt 5 = .ok (.iconst 5, 1) := by decide +kernel
theorem dX6_keysAt_6 : decode cX6_keysAt 6 = .ok (.if_icmp .ge 28, 3) := by decide +kernel
theorem dX6_keysAt_9 : decode cX6_keysAt 9 = .ok (.iload_n 2, 1) := by decide +kernel
theorem dX6_keysAt_10 : decode cX6_keysAt 10 = .ok (.aload_n 0, 1) := by decide +kernel
theorem dX6_keysAt_11 : decode cX6_keysAt 11 = .ok (.iload_n 3, 1) := by decide +kernel
theorem dX6_keysAt_12 : decode cX6_keysAt 12 = .ok (.iload_n 1, 1) := by decide +kernel
theorem dX6_keysAt_13 : decode cX6_keysAt 13 = .ok (.invokevirtual 64, 3) := by decide +kernel
theorem dX6_keysAt_16 : decode cX6_keysAt 16 = .ok (.ifCond .eq 9, 3) := by decide +kernel
theorem dX6_keysAt_19 : decode cX6_keysAt 19 = .ok (.iconst 1, 1) := by decide +kernel
theorem dX6_keysAt_20 : decode cX6_keysAt 20 = .ok (.iload_n 3, 1) := by decide +kernel
theorem dX6_keysAt_21 : decode cX6_keysAt 21 = .ok (.ishl, 1) := by decide +kernel
theorem dX6_keysAt_22 : decode cX6_keysAt 22 = .ok (.goto 4, 3) := by decide +kernel
theorem dX6_keysAt_25 : decode cX6_keysAt 25 = .ok (.iconst 0, 1) := by decide +kernel
theorem dX6_keysAt_26 : decode cX6_keysAt 26 = .ok (.ior, 1) := by decide +kernel
theorem dX6_keysAt_27 : decode cX6_keysAt 27 = .ok (.istore_n 2, 1) := by decide +kernel
theorem dX6_keysAt_28 : decode cX6_keysAt 28 = .ok (.iinc 3 1, 3) := by decide +kernel
theorem dX6_keysAt_31 : decode cX6_keysAt 31 = .ok (.goto (-27), 3) := by decide +kernel
theorem dX6_keysAt_34 : decode cX6_keysAt 34 = .ok (.iload_n 2, 1) := by decide +kernel
theorem dX6_keysAt_35 : decode cX6_keysAt 35 = .ok (.ireturn, 1) := by decide +kernel
theorem dX6_atNow_0 : decode cX6_atNow 0 = .ok (.iload_n 2, 1) := by decide +kernel
theorem dX6_atNow_1 : decode cX6_atNow 1 = .ok (.tableswitch 74 0 3 #[31, 40, 50, 60], 31) := by decide +kernel
theorem dX6_atNow_32 : decode cX6_atNow 32 = .ok (.aload_n 0, 1) := by decide +kernel
theorem dX6_atNow_33 : decode cX6_atNow 33 = .ok (.getfield 7, 3) := by decide +kernel
theorem dX6_atNow_36 : decode cX6_atNow 36 = .ok (.iconst 0, 1) := by decide +kernel
theorem dX6_atNow_37 : decode cX6_atNow 37 = .ok (.iload_n 1, 1) := by decide +kernel
theorem dX6_atNow_38 : decode cX6_atNow 38 = .ok (.iadd, 1) := by decide +kernel
theorem dX6_atNow_39 : decode cX6_atNow 39 = .ok (.iaload, 1) := by decide +kernel
theorem dX6_atNow_40 : decode cX6_atNow 40 = .ok (.ireturn, 1) := by decide +kernel
theorem dX6_atNow_41 : decode cX6_atNow 41 = .ok (.aload_n 0, 1) := by decide +kernel
theorem dX6_atNow_42 : decode cX6_atNow 42 = .ok (.getfield 7, 3) := by decide +kernel
theorem dX6_atNow_45 : decode cX6_atNow 45 = .ok (.bipush 6, 2) := by decide +kernel
theorem dX6_atNow_47 : decode cX6_atNow 47 = .ok (.iload_n 1, 1) := by decide +kernel
theorem dX6_atNow_48 : decode cX6_atNow 48 = .ok (.iadd, 1) := by decide +kernel
theorem dX6_atNow_49 : decode cX6_atNow 49 = .ok (.iaload, 1) := by decide +kernel
theorem dX6_atNow_50 : decode cX6_atNow 50 = .ok (.ireturn, 1) := by decide +kernel
theorem dX6_atNow_51 : decode cX6_atNow 51 = .ok (.aload_n 0, 1) := by decide +kernel
theorem dX6_atNow_52 : decode cX6_atNow 52 = .ok (.getfield 7, 3) := by decide +kernel
theorem dX6_atNow_55 : decode cX6_atNow 55 = .ok (.bipush 12, 2) := by decide +kernel
theorem dX6_atNow_57 : decode cX6_atNow 57 = .ok (.iload_n 1, 1) := by decide +kernel
theorem dX6_atNow_58 : decode cX6_atNow 58 = .ok (.iadd, 1) := by decide +kernel
theorem dX6_atNow_59 : decode cX6_atNow 59 = .ok (.iaload, 1) := by decide +kernel
theorem dX6_atNow_60 : decode cX6_atNow 60 = .ok (.ireturn, 1) := by decide +kernel
theorem dX6_atNow_61 : decode cX6_atNow 61 = .ok (.aload_n 0, 1) := by decide +kernel
theorem dX6_atNow_62 : decode cX6_atNow 62 = .ok (.iload_n 1, 1) := by decide +kernel
theorem dX6_atNow_63 : decode cX6_atNow 63 = .ok (.invokevirtual 72, 3) := by decide +kernel
theorem dX6_atNow_66 : decode cX6_atNow 66 = .ok (.ifCond .eq 7, 3) := by decide +kernel
theorem dX6_atNow_69 : decode cX6_atNow 69 = .ok (.iconst 1, 1) := by decide +kernel
theorem dX6_atNow_70 : decode cX6_atNow 70 = .ok (.goto 4, 3) := by decide +kernel
theorem dX6_atNow_73 : decode cX6_atNow 73 = .ok (.iconst 0, 1) := by decide +kernel
theorem dX6_atNow_74 : decode cX6_atNow 74 = .ok (.ireturn, 1) := by decide +kernel
theorem dX6_atNow_75 : decode cX6_atNow 75 = .ok (.aload_n 0, 1) := by decide +kernel
theorem dX6_atNow_76 : decode cX6_atNow 76 = .ok (.iload_n 1, 1) := by decide +kernel
theorem dX6_atNow_77 : decode cX6_atNow 77 = .ok (.invokevirtual 156, 3) := by decide +kernel
theorem dX6_atNow_80 : decode cX6_atNow 80 = .ok (.ireturn, 1) := by decide +kernel
theorem dX6_at_0 : decode cX6_at 0 = .ok (.aload_n 0, 1) := by decide +kernel
theorem dX6_at_1 : decode cX6_at 1 = .ok (.iload_n 1, 1) := by decide +kernel
theorem dX6_at_2 : decode cX6_at 2 = .ok (.invokestatic 122, 3) := by decide +kernel
theorem dX6_at_5 : decode cX6_at 5 = .ok (.ifCond .ne 7, 3) := by decide +kernel
theorem dX6_at_8 : decode cX6_at 8 = .ok (.iconst 1, 1) := by decide +kernel
theorem dX6_at_9 : decode cX6_at 9 = .ok (.goto 17, 3) := by decide +kernel
theorem dX6_at_12 : decode cX6_at 12 = .ok (.iload_n 2, 1) := by decide +kernel
theorem dX6_at_13 : decode cX6_at 13 = .ok (.iconst 0, 1) := by decide +kernel
theorem dX6_at_14 : decode cX6_at 14 = .ok (.iconst 4, 1) := by decide +kernel
theorem dX6_at_15 : decode cX6_at 15 = .ok (.invokestatic 50, 3) := by decide +kernel
theorem dX6_at_18 : decode cX6_at 18 = .ok (.ifCond .eq 7, 3) := by decide +kernel
theorem dX6_at_21 : decode cX6_at 21 = .ok (.iconst 0, 1) := by decide +kernel
theorem dX6_at_22 : decode cX6_at 22 = .ok (.goto 4, 3) := by decide +kernel
theorem dX6_at_25 : decode cX6_at 25 = .ok (.iconst 2, 1) := by decide +kernel
theorem dX6_at_26 : decode cX6_at 26 = .ok (.putfield 46, 3) := by decide +kernel
theorem dX6_at_29 : decode cX6_at 29 = .ok (.aload_n 0, 1) := by decide +kernel
theorem dX6_at_30 : decode cX6_at 30 = .ok (.getfield 46, 3) := by decide +kernel
theorem dX6_at_33 : decode cX6_at 33 = .ok (.ifCond .le 7, 3) := by decide +kernel
theorem dX6_at_36 : decode cX6_at 36 = .ok (.iconst 0, 1) := by decide +kernel
theorem dX6_at_37 : decode cX6_at 37 = .ok (.goto 9, 3) := by decide +kernel
theorem dX6_at_40 : decode cX6_at 40 = .ok (.aload_n 0, 1) := by decide +kernel
theorem dX6_at_41 : decode cX6_at 41 = .ok (.iload_n 1, 1) := by decide +kernel
theorem dX6_at_42 : decode cX6_at 42 = .ok (.iload_n 2, 1) := by decide +kernel
theorem dX6_at_43 : decode cX6_at 43 = .ok (.invokevirtual 159, 3) := by decide +kernel
theorem dX6_at_46 : decode cX6_at 46 = .ok (.ireturn, 1) := by decide +kernel
theorem dX6_reach_0 : decode cX6_reach 0 = .ok (.iconst 0, 1) := by decide +kernel
theorem dX6_reach_1 : decode cX6_reach 1 = .ok (.istore_n 1, 1) := by decide +kernel
theorem dX6_reach_2 : decode cX6_reach 2 = .ok (.iconst 0, 1) := by decide +kernel
theorem dX6_reach_3 : decode cX6_reach 3 = .ok (.istore_n 2, 1) := by decide +kernel
theorem dX6_reach_4 : decode cX6_reach 4 = .ok (.iload_n 2, 1) := by decide +kernel
theorem dX6_reach_5 : decode cX6_reach 5 = .ok (.bipush 6, 2) := by decide +kernel
theorem dX6_reach_7 : decode cX6_reach 7 = .ok (.if_icmp .ge 43, 3) := by decide +kernel
theorem dX6_reach_10 : decode cX6_reach 10 = .ok (.iload_n 1, 1) := by decide +kernel
theorem dX6_reach_11 : decode cX6_reach 11 = .ok (.aload_n 0, 1) := by decide +kernel
theorem dX6_reach_12 : decode cX6_reach 12 = .ok (.getfield 7, 3) := by decide +kernel
theorem dX6_reach_15 : decode cX6_reach 15 = .ok (.iconst 0, 1) := by decide +kernel
theorem dX6_reach_16 : decode cX6_reach 16 = .ok (.iload_n 2, 1) := by decide +kernel
theorem dX6_reach_17 : decode cX6_reach 17 = .ok (.iadd, 1) := by decide +kernel
theorem dX6_reach_18 : decode cX6_reach 18 = .ok (.iaload, 1) := by decide +kernel
theorem dX6_reach_19 : decode cX6_reach 19 = .ok (.iload_n 2, 1) := by decide +kernel
theorem dX6_reach_20 : decode cX6_reach 20 = .ok (.if_icmp .ne 15, 3) := by decide +kernel
theorem dX6_reach_23 : decode cX6_reach 23 = .ok (.aload_n 0, 1) := by decide +kernel
theorem dX6_reach_24 : decode cX6_reach 24 = .ok (.getfield 7, 3) := by decide +kernel
theorem dX6_reach_27 : decode cX6_reach 27 = .ok (.bipush 6, 2) := by decide +kernel
theorem dX6_reach_29 : decode cX6_reach 29 = .ok (.iload_n 2, 1) := by decide +kernel
theorem dX6_reach_30 : decode cX6_reach 30 = .ok (.iadd, 1) := by decide +kernel
theorem dX6_reach_31 : decode cX6_reach 31 = .ok (.iaload, 1) := by decide +kernel
theorem dX6_reach_32 : decode cX6_reach 32 = .ok (.ifCond .eq 9, 3) := by decide +kernel
theorem dX6_reach_35 : decode cX6_reach 35 = .ok (.iconst 1, 1) := by decide +kernel
theorem dX6_reach_36 : decode cX6_reach 36 = .ok (.iload_n 2, 1) := by decide +kernel
theorem dX6_reach_37 : decode cX6_reach 37 = .ok (.ishl, 1) := by decide +kernel
theorem dX6_reach_38 : decode cX6_reach 38 = .ok (.goto 4, 3) := by decide +kernel
theorem dX6_reach_41 : decode cX6_reach 41 = .ok (.iconst 0, 1) := by decide +kernel
theorem dX6_reach_42 : decode cX6_reach 42 = .ok (.ior, 1) := by decide +kernel
theorem dX6_reach_43 : decode cX6_reach 43 = .ok (.istore_n 1, 1) := by decide +kernel
theorem dX6_reach_44 : decode cX6_reach 44 = .ok (.iinc 2 1, 3) := by decide +kernel
theorem dX6_reach_47 : decode cX6_reach 47 = .ok (.goto (-43), 3) := by decide +kernel
theorem dX6_reach_50 : decode cX6_reach 50 = .ok (.iload_n 1, 1) := by decide +kernel
theorem dX6_reach_51 : decode cX6_reach 51 = .ok (.ireturn, 1) := by decide +kernel
theorem dX6_common_0 : decode cX6_common 0 = .ok (.iload_n 0, 1) := by decide +kernel
theorem dX6_common_1 : decode cX6_common 1 = .ok (.istore_n 2, 1) := by decide +kernel
theorem dX6_common_2 : decode cX6_common 2 = .ok (.iload_n 1, 1) := by decide +kernel
theorem dX6_common_3 : decode cX6_common 3 = .ok (.istore_n 3, 1) := by decide +kernel
theorem dX6_common_4 : decode cX6_common 4 = .ok (.iload_n 3, 1) := by decide +kernel
theorem dX6_common_5 : decode cX6_common 5 = .ok (.ifCond .le 16, 3) := by decide +kernel
theorem dX6_common_8 : decode cX6_common 8 = .ok (.iload_n 2, 1) := by decide +kernel
theorem dX6_common_9 : decode cX6_common 9 = .ok (.iload_n 3, 1) := by decide +kernel
theorem dX6_common_10 : decode cX6_common 10 = .ok (.irem, 1) := by decide +kernel
theorem dX6_common_11 : decode cX6_common 11 = .ok (.istore 4, 2) := by decide +kernel
theorem dX6_common_13 : decode cX6_common 13 = .ok (.iload_n 3, 1) := by decide +kernel
theorem dX6_common_14 : decode cX6_common 14 = .ok (.istore_n 2, 1) := by decide +kernel
theorem dX6_common_15 : decode cX6_common 15 = .ok (.iload 4, 2) := by decide +kernel
theorem dX6_common_17 : decode cX6_common 17 = .ok (.istore_n 3, 1) := by decide +kernel
theorem dX6_common_18 : decode cX6_common 18 = .ok (.goto (-14), 3) := by decide +kernel
theorem dX6_common_21 : decode cX6_common 21 = .ok (.iload_n 2, 1) := by decide +kernel
theorem dX6_common_22 : decode cX6_common 22 = .ok (.ireturn, 1) := by decide +kernel
theorem dX6_period_0 : decode cX6_period 0 = .ok (.iconst 1, 1) := by decide +kernel
theorem dX6_period_1 : decode cX6_period 1 = .ok (.istore_n 1, 1) := by decide +kernel
theorem dX6_period_2 : decode cX6_period 2 = .ok (.iconst 0, 1) := by decide +kernel
theorem dX6_period_3 : decode cX6_period 3 = .ok (.istore_n 2, 1) := by decide +kernel
theorem dX6_period_4 : decode cX6_period 4 = .ok (.iload_n 2, 1) := by decide +kernel
theorem dX6_period_5 : decode cX6_period 5 = .ok (.bipush 6, 2) := by decide +kernel
theorem dX6_period_7 : decode cX6_period 7 = .ok (.if_icmp .ge 114, 3) := by decide +kernel
theorem dX6_period_10 : decode cX6_period 10 = .ok (.iconst 0, 1) := by decide +kernel
theorem dX6_period_11 : decode cX6_period 11 = .ok (.istore_n 3, 1) := by decide +kernel
theorem dX6_period_12 : decode cX6_period 12 = .ok (.iconst 0, 1) := by decide +kernel
theorem dX6_period_13 : decode cX6_period 13 = .ok (.istore 4, 2) := by decide +kernel
theorem dX6_period_15 : decode cX6_period 15 = .ok (.iload_n 2, 1) := by decide +kernel
theorem dX6_period_16 : decode cX6_period 16 = .ok (.istore 5, 2) := by decide +kernel
theorem dX6_period_18 : decode cX6_period 18 = .ok (.iconst 1, 1) := by decide +kernel
theorem dX6_period_19 : decode cX6_period 19 = .ok (.istore 6, 2) := by decide +kernel
theorem dX6_period_21 : decode cX6_period 21 = .ok (.iload 6, 2) := by decide +kernel
theorem dX6_period_23 : decode cX6_period 23 = .ok (.ifCond .eq 64, 3) := by decide +kernel
theorem dX6_period_26 : decode cX6_period 26 = .ok (.iconst 0, 1) := by decide +kernel
theorem dX6_period_27 : decode cX6_period 27 = .ok (.istore 7, 2) := by decide +kernel
theorem dX6_period_29 : decode cX6_period 29 = .ok (.aload_n 0, 1) := by decide +kernel
theorem dX6_period_30 : decode cX6_period 30 = .ok (.getfield 7, 3) := by decide +kernel
theorem dX6_period_33 : decode cX6_period 33 = .ok (.iconst 0, 1) := by decide +kernel
theorem dX6_period_34 : decode cX6_period 34 = .ok (.iload 7, 2) := by decide +kernel
theorem dX6_period_36 : decode cX6_period 36 = .ok (.iadd, 1) := by decide +kernel
theorem dX6_period_37 : decode cX6_period 37 = .ok (.iaload, 1) := by decide +kernel
theorem dX6_period_38 : decode cX6_period 38 = .ok (.iload 5, 2) := by decide +kernel
theorem dX6_period_40 : decode cX6_period 40 = .ok (.if_icmp .eq 9, 3) := by decide +kernel
theorem dX6_period_43 : decode cX6_period 43 = .ok (.iinc 7 1, 3) := by decide +kernel
theorem dX6_period_46 : decode cX6_period 46 = .ok (.goto (-17), 3) := by decide +kernel
theorem dX6_period_49 : decode cX6_period 49 = .ok (.iinc 3 1, 3) := by decide +kernel
theorem dX6_period_52 : decode cX6_period 52 = .ok (.iload 4, 2) := by decide +kernel
theorem dX6_period_54 : decode cX6_period 54 = .ok (.aload_n 0, 1) := by decide +kernel
theorem dX6_period_55 : decode cX6_period 55 = .ok (.getfield 7, 3) := by decide +kernel
theorem dX6_period_58 : decode cX6_period 58 = .ok (.bipush 6, 2) := by decide +kernel
theorem dX6_period_60 : decode cX6_period 60 = .ok (.iload 7, 2) := by decide +kernel
theorem dX6_period_62 : decode cX6_period 62 = .ok (.iadd, 1) := by decide +kernel
theorem dX6_period_63 : decode cX6_period 63 = .ok (.iaload, 1) := by decide +kernel
theorem dX6_period_64 : decode cX6_period 64 = .ok (.iadd, 1) := by decide +kernel
theorem dX6_period_65 : decode cX6_period 65 = .ok (.istore 4, 2) := by decide +kernel
theorem dX6_period_67 : decode cX6_period 67 = .ok (.iload 7, 2) := by decide +kernel
theorem dX6_period_69 : decode cX6_period 69 = .ok (.istore 5, 2) := by decide +kernel
theorem dX6_period_71 : decode cX6_period 71 = .ok (.iload 5, 2) := by decide +kernel
theorem dX6_period_73 : decode cX6_period 73 = .ok (.iload_n 2, 1) := by decide +kernel
theorem dX6_period_74 : decode cX6_period 74 = .ok (.if_icmp .eq 7, 3) := by decide +kernel
theorem dX6_period_77 : decode cX6_period 77 = .ok (.iconst 1, 1) := by decide +kernel
theorem dX6_period_78 : decode cX6_period 78 = .ok (.goto 4, 3) := by decide +kernel
theorem dX6_period_81 : decode cX6_period 81 = .ok (.iconst 0, 1) := by decide +kernel
theorem dX6_period_82 : decode cX6_period 82 = .ok (.istore 6, 2) := by decide +kernel
theorem dX6_period_84 : decode cX6_period 84 = .ok (.goto (-63), 3) := by decide +kernel
theorem dX6_period_87 : decode cX6_period 87 = .ok (.iload 4, 2) := by decide +kernel
theorem dX6_period_89 : decode cX6_period 89 = .ok (.iconst 5, 1) := by decide +kernel
theorem dX6_period_90 : decode cX6_period 90 = .ok (.irem, 1) := by decide +kernel
theorem dX6_period_91 : decode cX6_period 91 = .ok (.ifCond .ne 7, 3) := by decide +kernel
theorem dX6_period_94 : decode cX6_period 94 = .ok (.iload_n 3, 1) := by decide +kernel
theorem dX6_period_95 : decode cX6_period 95 = .ok (.goto 6, 3) := by decide +kernel
theorem dX6_period_98 : decode cX6_period 98 = .ok (.iconst 5, 1) := by decide +kernel
theorem dX6_period_99 : decode cX6_period 99 = .ok (.iload_n 3, 1) := by decide +kernel
theorem dX6_period_100 : decode cX6_period 100 = .ok (.imul, 1) := by decide +kernel
theorem dX6_period_101 : decode cX6_period 101 = .ok (.istore 7, 2) := by decide +kernel
theorem dX6_period_103 : decode cX6_period 103 = .ok (.iload_n 1, 1) := by decide +kernel
theorem dX6_period_104 : decode cX6_period 104 = .ok (.iload_n 1, 1) := by decide +kernel
theorem dX6_period_105 : decode cX6_period 105 = .ok (.iload 7, 2) := by decide +kernel
theorem dX6_period_107 : decode cX6_period 107 = .ok (.invokestatic 162, 3) := by decide +kernel
theorem dX6_period_110 : decode cX6_period 110 = .ok (.idiv, 1) := by decide +kernel
theorem dX6_period_111 : decode cX6_period 111 = .ok (.iload 7, 2) := by decide +kernel
theorem dX6_period_113 : decode cX6_period 113 = .ok (.imul, 1) := by decide +kernel
theorem dX6_period_114 : decode cX6_period 114 = .ok (.istore_n 1, 1) := by decide +kernel
theorem dX6_period_115 : decode cX6_period 115 = .ok (.iinc 2 1, 3) := by decide +kernel
theorem dX6_period_118 : decode cX6_period 118 = .ok (.goto (-114), 3) := by decide +kernel
theorem dX6_period_121 : decode cX6_period 121 = .ok (.iload_n 1, 1) := by decide +kernel
theorem dX6_period_122 : decode cX6_period 122 = .ok (.ireturn, 1) := by decide +kernel
theorem dX6_keyPeriod_0 : decode cX6_keyPeriod 0 = .ok (.aload_n 0, 1) := by decide +kernel
theorem dX6_keyPeriod_1 : decode cX6_keyPeriod 1 = .ok (.invokevirtual 165, 3) := by decide +kernel
theorem dX6_keyPeriod_4 : decode cX6_keyPeriod 4 = .ok (.aload_n 0, 1) := by decide +kernel
theorem dX6_keyPeriod_5 : decode cX6_keyPeriod 5 = .ok (.invokevirtual 119, 3) := by decide +kernel
theorem dX6_keyPeriod_8 : decode cX6_keyPeriod 8 = .ok (.aload_n 0, 1) := by decide +kernel
theorem dX6_keyPeriod_9 : decode cX6_keyPeriod 9 = .ok (.iload_n 1, 1) := by decide +kernel
theorem dX6_keyPeriod_10 : decode cX6_keyPeriod 10 = .ok (.invokevirtual 84, 3) := by decide +kernel
theorem dX6_keyPeriod_13 : decode cX6_keyPeriod 13 = .ok (.aload_n 0, 1) := by decide +kernel
theorem dX6_keyPeriod_14 : decode cX6_keyPeriod 14 = .ok (.invokevirtual 168, 3) := by decide +kernel
theorem dX6_keyPeriod_17 : decode cX6_keyPeriod 17 = .ok (.istore_n 2, 1) := by decide +kernel
theorem dX6_keyPeriod_18 : decode cX6_keyPeriod 18 = .ok (.aload_n 0, 1) := by decide +kernel
theorem dX6_keyPeriod_19 : decode cX6_keyPeriod 19 = .ok (.invokevirtual 171, 3) := by decide +kernel
theorem dX6_keyPeriod_22 : decode cX6_keyPeriod 22 = .ok (.iload_n 2, 1) := by decide +kernel
theorem dX6_keyPeriod_23 : decode cX6_keyPeriod 23 = .ok (.ireturn, 1) := by decide +kernel
theorem dX6_keyNow_0 : decode cX6_keyNow 0 = .ok (.iload_n 2, 1) := by decide +kernel
theorem dX6_keyNow_1 : decode cX6_keyNow 1 = .ok (.tableswitch 75 0 4 #[35, 45, 55, 55, 61], 35) := by decide +kernel
theorem dX6_keyNow_36 : decode cX6_keyNow 36 = .ok (.aload_n 0, 1) := by decide +kernel
theorem dX6_keyNow_37 : decode cX6_keyNow 37 = .ok (.getfield 7, 3) := by decide +kernel
theorem dX6_keyNow_40 : decode cX6_keyNow 40 = .ok (.bipush 18, 2) := by decide +kernel
theorem dX6_keyNow_42 : decode cX6_keyNow 42 = .ok (.iload_n 1, 1) := by decide +kernel
theorem dX6_keyNow_43 : decode cX6_keyNow 43 = .ok (.iadd, 1) := by decide +kernel
theorem dX6_keyNow_44 : decode cX6_keyNow 44 = .ok (.iaload, 1) := by decide +kernel
theorem dX6_keyNow_45 : decode cX6_keyNow 45 = .ok (.ireturn, 1) := by decide +kernel
theorem dX6_keyNow_46 : decode cX6_keyNow 46 = .ok (.aload_n 0, 1) := by decide +kernel
theorem dX6_keyNow_47 : decode cX6_keyNow 47 = .ok (.getfield 7, 3) := by decide +kernel
theorem dX6_keyNow_50 : decode cX6_keyNow 50 = .ok (.bipush 23, 2) := by decide +kernel
theorem dX6_keyNow_52 : decode cX6_keyNow 52 = .ok (.iload_n 1, 1) := by decide +kernel
theorem dX6_keyNow_53 : decode cX6_keyNow 53 = .ok (.iadd, 1) := by decide +kernel
theorem dX6_keyNow_54 : decode cX6_keyNow 54 = .ok (.iaload, 1) := by decide +kernel
theorem dX6_keyNow_55 : decode cX6_keyNow 55 = .ok (.ireturn, 1) := by decide +kernel
theorem dX6_keyNow_56 : decode cX6_keyNow 56 = .ok (.aload_n 0, 1) := by decide +kernel
theorem dX6_keyNow_57 : decode cX6_keyNow 57 = .ok (.iload_n 1, 1) := by decide +kernel
theorem dX6_keyNow_58 : decode cX6_keyNow 58 = .ok (.invokevirtual 174, 3) := by decide +kernel
theorem dX6_keyNow_61 : decode cX6_keyNow 61 = .ok (.ireturn, 1) := by decide +kernel
theorem dX6_keyNow_62 : decode cX6_keyNow 62 = .ok (.aload_n 0, 1) := by decide +kernel
theorem dX6_keyNow_63 : decode cX6_keyNow 63 = .ok (.iload_n 1, 1) := by decide +kernel
theorem dX6_keyNow_64 : decode cX6_keyNow 64 = .ok (.invokevirtual 95, 3) := by decide +kernel
theorem dX6_keyNow_67 : decode cX6_keyNow 67 = .ok (.ifCond .eq 7, 3) := by decide +kernel
theorem dX6_keyNow_70 : decode cX6_keyNow 70 = .ok (.iconst 1, 1) := by decide +kernel
theorem dX6_keyNow_71 : decode cX6_keyNow 71 = .ok (.goto 4, 3) := by decide +kernel
theorem dX6_keyNow_74 : decode cX6_keyNow 74 = .ok (.iconst 0, 1) := by decide +kernel
theorem dX6_keyNow_75 : decode cX6_keyNow 75 = .ok (.ireturn, 1) := by decide +kernel
theorem dX6_keyNow_76 : decode cX6_keyNow 76 = .ok (.aload_n 0, 1) := by decide +kernel
theorem dX6_keyNow_77 : decode cX6_keyNow 77 = .ok (.getfield 7, 3) := by decide +kernel
theorem dX6_keyNow_80 : decode cX6_keyNow 80 = .ok (.bipush 28, 2) := by decide +kernel
theorem dX6_keyNow_82 : decode cX6_keyNow 82 = .ok (.iload_n 1, 1) := by decide +kernel
theorem dX6_keyNow_83 : decode cX6_keyNow 83 = .ok (.iadd, 1) := by decide +kernel
theorem dX6_keyNow_84 : decode cX6_keyNow 84 = .ok (.iaload, 1) := by decide +kernel
theorem dX6_keyNow_85 : decode cX6_keyNow 85 = .ok (.ireturn, 1) := by decide +kernel
theorem dX6_key_0 : decode cX6_key 0 = .ok (.aload_n 0, 1) := by decide +kernel
theorem dX6_key_1 : decode cX6_key 1 = .ok (.iload_n 1, 1) := by decide +kernel
theorem dX6_key_2 : decode cX6_key 2 = .ok (.invokestatic 92, 3) := by decide +kernel
theorem dX6_key_5 : decode cX6_key 5 = .ok (.ifCond .ne 7, 3) := by decide +kernel
theorem dX6_key_8 : decode cX6_key 8 = .ok (.iconst 1, 1) := by decide +kernel
theorem dX6_key_9 : decode cX6_key 9 = .ok (.goto 17, 3) := by decide +kernel
theorem dX6_key_12 : decode cX6_key 12 = .ok (.iload_n 2, 1) := by decide +kernel
theorem dX6_key_13 : decode cX6_key 13 = .ok (.iconst 0, 1) := by decide +kernel
theorem dX6_key_14 : decode cX6_key 14 = .ok (.iconst 5, 1) := by decide +kernel
theorem dX6_key_15 : decode cX6_key 15 = .ok (.invokestatic 50, 3) := by decide +kernel
theorem dX6_key_18 : decode cX6_key 18 = .ok (.ifCond .eq 7, 3) := by decide +kernel
theorem dX6_key_21 : decode cX6_key 21 = .ok (.iconst 0, 1) := by decide +kernel
theorem dX6_key_22 : decode cX6_key 22 = .ok (.goto 4, 3) := by decide +kernel
theorem dX6_key_25 : decode cX6_key 25 = .ok (.iconst 2, 1) := by decide +kernel
theorem dX6_key_26 : decode cX6_key 26 = .ok (.putfield 46, 3) := by decide +kernel
theorem dX6_key_29 : decode cX6_key 29 = .ok (.aload_n 0, 1) := by decide +kernel
theorem dX6_key_30 : decode cX6_key 30 = .ok (.getfield 46, 3) := by decide +kernel
theorem dX6_key_33 : decode cX6_key 33 = .ok (.ifCond .le 7, 3) := by decide +kernel
theorem dX6_key_36 : decode cX6_key 36 = .ok (.iconst 0, 1) := by decide +kernel
theorem dX6_key_37 : decode cX6_key 37 = .ok (.goto 9, 3) := by decide +kernel
theorem dX6_key_40 : decode cX6_key 40 = .ok (.aload_n 0, 1) := by decide +kernel
theorem dX6_key_41 : decode cX6_key 41 = .ok (.iload_n 1, 1) := by decide +kernel
theorem dX6_key_42 : decode cX6_key 42 = .ok (.iload_n 2, 1) := by decide +kernel
theorem dX6_key_43 : decode cX6_key 43 = .ok (.invokevirtual 177, 3) := by decide +kernel
theorem dX6_key_46 : decode cX6_key 46 = .ok (.ireturn, 1) := by decide +kernel
theorem dX6_pairNow_0 : decode cX6_pairNow 0 = .ok (.aload_n 0, 1) := by decide +kernel
theorem dX6_pairNow_1 : decode cX6_pairNow 1 = .ok (.invokevirtual 165, 3) := by decide +kernel
theorem dX6_pairNow_4 : decode cX6_pairNow 4 = .ok (.aload_n 0, 1) := by decide +kernel
theorem dX6_pairNow_5 : decode cX6_pairNow 5 = .ok (.invokevirtual 119, 3) := by decide +kernel
theorem dX6_pairNow_8 : decode cX6_pairNow 8 = .ok (.aload_n 0, 1) := by decide +kernel
theorem dX6_pairNow_9 : decode cX6_pairNow 9 = .ok (.iload_n 1, 1) := by decide +kernel
theorem dX6_pairNow_10 : decode cX6_pairNow 10 = .ok (.invokevirtual 84, 3) := by decide +kernel
theorem dX6_pairNow_13 : decode cX6_pairNow 13 = .ok (.aload_n 0, 1) := by decide +kernel
theorem dX6_pairNow_14 : decode cX6_pairNow 14 = .ok (.iload_n 2, 1) := by decide +kernel
theorem dX6_pairNow_15 : decode cX6_pairNow 15 = .ok (.invokevirtual 84, 3) := by decide +kernel
theorem dX6_pairNow_18 : decode cX6_pairNow 18 = .ok (.aload_n 0, 1) := by decide +kernel
theorem dX6_pairNow_19 : decode cX6_pairNow 19 = .ok (.iconst 5, 1) := by decide +kernel
theorem dX6_pairNow_20 : decode cX6_pairNow 20 = .ok (.iload_n 1, 1) := by decide +kernel
theorem dX6_pairNow_21 : decode cX6_pairNow 21 = .ok (.iadd, 1) := by decide +kernel
theorem dX6_pairNow_22 : decode cX6_pairNow 22 = .ok (.invokevirtual 84, 3) := by decide +kernel
theorem dX6_pairNow_25 : decode cX6_pairNow 25 = .ok (.aload_n 0, 1) := by decide +kernel
theorem dX6_pairNow_26 : decode cX6_pairNow 26 = .ok (.iconst 5, 1) := by decide +kernel
theorem dX6_pairNow_27 : decode cX6_pairNow 27 = .ok (.iload_n 2, 1) := by decide +kernel
theorem dX6_pairNow_28 : decode cX6_pairNow 28 = .ok (.iadd, 1) := by decide +kernel
theorem dX6_pairNow_29 : decode cX6_pairNow 29 = .ok (.invokevirtual 84, 3) := by decide +kernel
theorem dX6_pairNow_32 : decode cX6_pairNow 32 = .ok (.aload_n 0, 1) := by decide +kernel
theorem dX6_pairNow_33 : decode cX6_pairNow 33 = .ok (.invokevirtual 180, 3) := by decide +kernel
theorem dX6_pairNow_36 : decode cX6_pairNow 36 = .ok (.istore 4, 2) := by decide +kernel
theorem dX6_pairNow_38 : decode cX6_pairNow 38 = .ok (.iload_n 3, 1) := by decide +kernel
theorem dX6_pairNow_39 : decode cX6_pairNow 39 = .ok (.ifCond .ne 8, 3) := by decide +kernel
theorem dX6_pairNow_42 : decode cX6_pairNow 42 = .ok (.iload 4, 2) := by decide +kernel
theorem dX6_pairNow_44 : decode cX6_pairNow 44 = .ok (.goto 38, 3) := by decide +kernel
theorem dX6_pairNow_47 : decode cX6_pairNow 47 = .ok (.iload_n 3, 1) := by decide +kernel
theorem dX6_pairNow_48 : decode cX6_pairNow 48 = .ok (.iconst 1, 1) := by decide +kernel
theorem dX6_pairNow_49 : decode cX6_pairNow 49 = .ok (.if_icmp .ne 11, 3) := by decide +kernel
theorem dX6_pairNow_52 : decode cX6_pairNow 52 = .ok (.iload 4, 2) := by decide +kernel
theorem dX6_pairNow_54 : decode cX6_pairNow 54 = .ok (.invokestatic 88, 3) := by decide +kernel
theorem dX6_pairNow_57 : decode cX6_pairNow 57 = .ok (.goto 25, 3) := by decide +kernel
theorem dX6_pairNow_60 : decode cX6_pairNow 60 = .ok (.iload_n 3, 1) := by decide +kernel
theorem dX6_pairNow_61 : decode cX6_pairNow 61 = .ok (.iconst 4, 1) := by decide +kernel
theorem dX6_pairNow_62 : decode cX6_pairNow 62 = .ok (.if_icmp .ne 16, 3) := by decide +kernel
theorem dX6_pairNow_65 : decode cX6_pairNow 65 = .ok (.iload 4, 2) := by decide +kernel
theorem dX6_pairNow_67 : decode cX6_pairNow 67 = .ok (.ifCond .ne 7, 3) := by decide +kernel
theorem dX6_pairNow_70 : decode cX6_pairNow 70 = .ok (.iconst 1, 1) := by decide +kernel
theorem dX6_pairNow_71 : decode cX6_pairNow 71 = .ok (.goto 11, 3) := by decide +kernel
theorem dX6_pairNow_74 : decode cX6_pairNow 74 = .ok (.iconst 0, 1) := by decide +kernel
theorem dX6_pairNow_75 : decode cX6_pairNow 75 = .ok (.goto 7, 3) := by decide +kernel
theorem dX6_pairNow_78 : decode cX6_pairNow 78 = .ok (.aload_n 0, 1) := by decide +kernel
theorem dX6_pairNow_79 : decode cX6_pairNow 79 = .ok (.invokevirtual 168, 3) := by decide +kernel
theorem dX6_pairNow_82 : decode cX6_pairNow 82 = .ok (.istore 5, 2) := by decide +kernel
theorem dX6_pairNow_84 : decode cX6_pairNow 84 = .ok (.aload_n 0, 1) := by decide +kernel
theorem dX6_pairNow_85 : decode cX6_pairNow 85 = .ok (.invokevirtual 171, 3) := by decide +kernel
theorem dX6_pairNow_88 : decode cX6_pairNow 88 = .ok (.iload 5, 2) := by decide +kernel
theorem dX6_pairNow_90 : decode cX6_pairNow 90 = .ok (.ireturn, 1) := by decide +kernel
theorem dX6_pair_0 : decode cX6_pair 0 = .ok (.aload_n 0, 1) := by decide +kernel
theorem dX6_pair_1 : decode cX6_pair 1 = .ok (.iload_n 1, 1) := by decide +kernel
theorem dX6_pair_2 : decode cX6_pair 2 = .ok (.invokestatic 92, 3) := by decide +kernel
theorem dX6_pair_5 : decode cX6_pair 5 = .ok (.ifCond .eq 10, 3) := by decide +kernel
theorem dX6_pair_8 : decode cX6_pair 8 = .ok (.iload_n 2, 1) := by decide +kernel
theorem dX6_pair_9 : decode cX6_pair 9 = .ok (.invokestatic 92, 3) := by decide +kernel
theorem dX6_pair_12 : decode cX6_pair 12 = .ok (.ifCond .ne 7, 3) := by decide +kernel
theorem dX6_pair_15 : decode cX6_pair 15 = .ok (.iconst 1, 1) := by decide +kernel
theorem dX6_pair_16 : decode cX6_pair 16 = .ok (.goto 17, 3) := by decide +kernel
theorem dX6_pair_19 : decode cX6_pair 19 = .ok (.iload_n 3, 1) := by decide +kernel
theorem dX6_pair_20 : decode cX6_pair 20 = .ok (.iconst 0, 1) := by decide +kernel
theorem dX6_pair_21 : decode cX6_pair 21 = .ok (.iconst 4, 1) := by decide +kernel
theorem dX6_pair_22 : decode cX6_pair 22 = .ok (.invokestatic 50, 3) := by decide +kernel
theorem dX6_pair_25 : decode cX6_pair 25 = .ok (.ifCond .eq 7, 3) := by decide +kernel
theorem dX6_pair_28 : decode cX6_pair 28 = .ok (.iconst 0, 1) := by decide +kernel
theorem dX6_pair_29 : decode cX6_pair 29 = .ok (.goto 4, 3) := by decide +kernel
theorem dX6_pair_32 : decode cX6_pair 32 = .ok (.iconst 2, 1) := by decide +kernel
theorem dX6_pair_33 : decode cX6_pair 33 = .ok (.putfield 46, 3) := by decide +kernel
theorem dX6_pair_36 : decode cX6_pair 36 = .ok (.aload_n 0, 1) := by decide +kernel
theorem dX6_pair_37 : decode cX6_pair 37 = .ok (.getfield 46, 3) := by decide +kernel
theorem dX6_pair_40 : decode cX6_pair 40 = .ok (.ifCond .le 7, 3) := by decide +kernel
theorem dX6_pair_43 : decode cX6_pair 43 = .ok (.iconst 0, 1) := by decide +kernel
theorem dX6_pair_44 : decode cX6_pair 44 = .ok (.goto 10, 3) := by decide +kernel
theorem dX6_pair_47 : decode cX6_pair 47 = .ok (.aload_n 0, 1) := by decide +kernel
theorem dX6_pair_48 : decode cX6_pair 48 = .ok (.iload_n 1, 1) := by decide +kernel
theorem dX6_pair_49 : decode cX6_pair 49 = .ok (.iload_n 2, 1) := by decide +kernel
theorem dX6_pair_50 : decode cX6_pair 50 = .ok (.iload_n 3, 1) := by decide +kernel
theorem dX6_pair_51 : decode cX6_pair 51 = .ok (.invokevirtual 183, 3) := by decide +kernel
theorem dX6_pair_54 : decode cX6_pair 54 = .ok (.ireturn, 1) := by decide +kernel
theorem dX6_wordNow_0 : decode cX6_wordNow 0 = .ok (.iload_n 1, 1) := by decide +kernel
theorem dX6_wordNow_1 : decode cX6_wordNow 1 = .ok (.ifCond .ne 8, 3) := by decide +kernel
theorem dX6_wordNow_4 : decode cX6_wordNow 4 = .ok (.aload_n 0, 1) := by decide +kernel
theorem dX6_wordNow_5 : decode cX6_wordNow 5 = .ok (.invokevirtual 187, 3) := by decide +kernel
theorem dX6_wordNow_8 : decode cX6_wordNow 8 = .ok (.ireturn, 1) := by decide +kernel
theorem dX6_wordNow_9 : decode cX6_wordNow 9 = .ok (.aload_n 0, 1) := by decide +kernel
theorem dX6_wordNow_10 : decode cX6_wordNow 10 = .ok (.invokevirtual 107, 3) := by decide +kernel
theorem dX6_wordNow_13 : decode cX6_wordNow 13 = .ok (.sipush 500, 3) := by decide +kernel
theorem dX6_wordNow_16 : decode cX6_wordNow 16 = .ok (.if_icmp .le 5, 3) := by decide +kernel
theorem dX6_wordNow_19 : decode cX6_wordNow 19 = .ok (.iconst (-1), 1) := by decide +kernel
theorem dX6_wordNow_20 : decode cX6_wordNow 20 = .ok (.ireturn, 1) := by decide +kernel
theorem dX6_wordNow_21 : decode cX6_wordNow 21 = .ok (.iload_n 1, 1) := by decide +kernel
theorem dX6_wordNow_22 : decode cX6_wordNow 22 = .ok (.iconst 4, 1) := by decide +kernel
theorem dX6_wordNow_23 : decode cX6_wordNow 23 = .ok (.if_icmp .ne 8, 3) := by decide +kernel
theorem dX6_wordNow_26 : decode cX6_wordNow 26 = .ok (.aload_n 0, 1) := by decide +kernel
theorem dX6_wordNow_27 : decode cX6_wordNow 27 = .ok (.getfield 146, 3) := by decide +kernel
theorem dX6_wordNow_30 : decode cX6_wordNow 30 = .ok (.ireturn, 1) := by decide +kernel
theorem dX6_wordNow_31 : decode cX6_wordNow 31 = .ok (.aload_n 0, 1) := by decide +kernel
theorem dX6_wordNow_32 : decode cX6_wordNow 32 = .ok (.invokevirtual 165, 3) := by decide +kernel
theorem dX6_wordNow_35 : decode cX6_wordNow 35 = .ok (.aload_n 0, 1) := by decide +kernel
theorem dX6_wordNow_36 : decode cX6_wordNow 36 = .ok (.invokevirtual 119, 3) := by decide +kernel
theorem dX6_wordNow_39 : decode cX6_wordNow 39 = .ok (.iconst 0, 1) := by decide +kernel
theorem dX6_wordNow_40 : decode cX6_wordNow 40 = .ok (.istore_n 2, 1) := by decide +kernel
theorem dX6_wordNow_41 : decode cX6_wordNow 41 = .ok (.iload_n 2, 1) := by decide +kernel
theorem dX6_wordNow_42 : decode cX6_wordNow 42 = .ok (.aload_n 0, 1) := by decide +kernel
theorem dX6_wordNow_43 : decode cX6_wordNow 43 = .ok (.getfield 110, 3) := by decide +kernel
theorem dX6_wordNow_46 : decode cX6_wordNow 46 = .ok (.if_icmp .ge 19, 3) := by decide +kernel
theorem dX6_wordNow_49 : decode cX6_wordNow 49 = .ok (.aload_n 0, 1) := by decide +kernel
theorem dX6_wordNow_50 : decode cX6_wordNow 50 = .ok (.aload_n 0, 1) := by decide +kernel
theorem dX6_wordNow_51 : decode cX6_wordNow 51 = .ok (.getfield 28, 3) := by decide +kernel
theorem dX6_wordNow_54 : decode cX6_wordNow 54 = .ok (.iload_n 2, 1) := by decide +kernel
theorem dX6_wordNow_55 : decode cX6_wordNow 55 = .ok (.iaload, 1) := by decide +kernel
theorem dX6_wordNow_56 : decode cX6_wordNow 56 = .ok (.invokevirtual 84, 3) := by decide +kernel
theorem dX6_wordNow_59 : decode cX6_wordNow 59 = .ok (.iinc 2 1, 3) := by decide +kernel
theorem dX6_wordNow_62 : decode cX6_wordNow 62 = .ok (.goto (-21), 3) := by decide +kernel
theorem dX6_wordNow_65 : decode cX6_wordNow 65 = .ok (.iload_n 1, 1) := by decide +kernel
theorem dX6_wordNow_66 : decode cX6_wordNow 66 = .ok (.iconst 1, 1) := by decide +kernel
theorem dX6_wordNow_67 : decode cX6_wordNow 67 = .ok (.if_icmp .ne 10, 3) := by decide +kernel
theorem dX6_wordNow_70 : decode cX6_wordNow 70 = .ok (.aload_n 0, 1) := by decide +kernel
theorem dX6_wordNow_71 : decode cX6_wordNow 71 = .ok (.invokevirtual 180, 3) := by decide +kernel
theorem dX6_wordNow_74 : decode cX6_wordNow 74 = .ok (.goto 7, 3) := by decide +kernel
theorem dX6_wordNow_77 : decode cX6_wordNow 77 = .ok (.aload_n 0, 1) := by decide +kernel
theorem dX6_wordNow_78 : decode cX6_wordNow 78 = .ok (.invokevirtual 168, 3) := by decide +kernel
theorem dX6_wordNow_81 : decode cX6_wordNow 81 = .ok (.istore_n 2, 1) := by decide +kernel
theorem dX6_wordNow_82 : decode cX6_wordNow 82 = .ok (.aload_n 0, 1) := by decide +kernel
theorem dX6_wordNow_83 : decode cX6_wordNow 83 = .ok (.invokevirtual 171, 3) := by decide +kernel
theorem dX6_wordNow_86 : decode cX6_wordNow 86 = .ok (.iload_n 2, 1) := by decide +kernel
theorem dX6_wordNow_87 : decode cX6_wordNow 87 = .ok (.ireturn, 1) := by decide +kernel
theorem dX6_ofWord_0 : decode cX6_ofWord 0 = .ok (.aload_n 0, 1) := by decide +kernel
theorem dX6_ofWord_1 : decode cX6_ofWord 1 = .ok (.iload_n 1, 1) := by decide +kernel
theorem dX6_ofWord_2 : decode cX6_ofWord 2 = .ok (.iconst 0, 1) := by decide +kernel
theorem dX6_ofWord_3 : decode cX6_ofWord 3 = .ok (.iconst 4, 1) := by decide +kernel
theorem dX6_ofWord_4 : decode cX6_ofWord 4 = .ok (.invokestatic 50, 3) := by decide +kernel
theorem dX6_ofWord_7 : decode cX6_ofWord 7 = .ok (.ifCond .eq 14, 3) := by decide +kernel
theorem dX6_ofWord_10 : decode cX6_ofWord 10 = .ok (.aload_n 0, 1) := by decide +kernel
theorem dX6_ofWord_11 : decode cX6_ofWord 11 = .ok (.invokevirtual 104, 3) := by decide +kernel
theorem dX6_ofWord_14 : decode cX6_ofWord 14 = .ok (.ifCond .eq 7, 3) := by decide +kernel
theorem dX6_ofWord_17 : decode cX6_ofWord 17 = .ok (.iconst 0, 1) := by decide +kernel
theorem dX6_ofWord_18 : decode cX6_ofWord 18 = .ok (.goto 4, 3) := by decide +kernel
theorem dX6_ofWord_21 : decode cX6_ofWord 21 = .ok (.iconst 1, 1) := by decide +kernel
theorem dX6_ofWord_22 : decode cX6_ofWord 22 = .ok (.putfield 46, 3) := by decide +kernel
theorem dX6_ofWord_25 : decode cX6_ofWord 25 = .ok (.aload_n 0, 1) := by decide +kernel
theorem dX6_ofWord_26 : decode cX6_ofWord 26 = .ok (.getfield 46, 3) := by decide +kernel
theorem dX6_ofWord_29 : decode cX6_ofWord 29 = .ok (.ifCond .le 7, 3) := by decide +kernel
theorem dX6_ofWord_32 : decode cX6_ofWord 32 = .ok (.iconst 0, 1) := by decide +kernel
theorem dX6_ofWord_33 : decode cX6_ofWord 33 = .ok (.goto 8, 3) := by decide +kernel
theorem dX6_ofWord_36 : decode cX6_ofWord 36 = .ok (.aload_n 0, 1) := by decide +kernel
theorem dX6_ofWord_37 : decode cX6_ofWord 37 = .ok (.iload_n 1, 1) := by decide +kernel
theorem dX6_ofWord_38 : decode cX6_ofWord 38 = .ok (.invokevirtual 190, 3) := by decide +kernel
theorem dX6_ofWord_41 : decode cX6_ofWord 41 = .ok (.ireturn, 1) := by decide +kernel
theorem dX6_stuckPlaces_0 : decode cX6_stuckPlaces 0 = .ok (.iconst 0, 1) := by decide +kernel
theorem dX6_stuckPlaces_1 : decode cX6_stuckPlaces 1 = .ok (.istore_n 1, 1) := by decide +kernel
theorem dX6_stuckPlaces_2 : decode cX6_stuckPlaces 2 = .ok (.iconst 0, 1) := by decide +kernel
theorem dX6_stuckPlaces_3 : decode cX6_stuckPlaces 3 = .ok (.istore_n 2, 1) := by decide +kernel
theorem dX6_stuckPlaces_4 : decode cX6_stuckPlaces 4 = .ok (.iload_n 2, 1) := by decide +kernel
theorem dX6_stuckPlaces_5 : decode cX6_stuckPlaces 5 = .ok (.bipush 6, 2) := by decide +kernel
theorem dX6_stuckPlaces_7 : decode cX6_stuckPlaces 7 = .ok (.if_icmp .ge 21, 3) := by decide +kernel
theorem dX6_stuckPlaces_10 : decode cX6_stuckPlaces 10 = .ok (.iload_n 1, 1) := by decide +kernel
theorem dX6_stuckPlaces_11 : decode cX6_stuckPlaces 11 = .ok (.aload_n 0, 1) := by decide +kernel
theorem dX6_stuckPlaces_12 : decode cX6_stuckPlaces 12 = .ok (.getfield 7, 3) := by decide +kernel
theorem dX6_stuckPlaces_15 : decode cX6_stuckPlaces 15 = .ok (.bipush 12, 2) := by decide +kernel
theorem dX6_stuckPlaces_17 : decode cX6_stuckPlaces 17 = .ok (.iload_n 2, 1) := by decide +kernel
theorem dX6_stuckPlaces_18 : decode cX6_stuckPlaces 18 = .ok (.iadd, 1) := by decide +kernel
theorem dX6_stuckPlaces_19 : decode cX6_stuckPlaces 19 = .ok (.iaload, 1) := by decide +kernel
theorem dX6_stuckPlaces_20 : decode cX6_stuckPlaces 20 = .ok (.iadd, 1) := by decide +kernel
theorem dX6_stuckPlaces_21 : decode cX6_stuckPlaces 21 = .ok (.istore_n 1, 1) := by decide +kernel
theorem dX6_stuckPlaces_22 : decode cX6_stuckPlaces 22 = .ok (.iinc 2 1, 3) := by decide +kernel
theorem dX6_stuckPlaces_25 : decode cX6_stuckPlaces 25 = .ok (.goto (-21), 3) := by decide +kernel
theorem dX6_stuckPlaces_28 : decode cX6_stuckPlaces 28 = .ok (.iload_n 1, 1) := by decide +kernel
theorem dX6_stuckPlaces_29 : decode cX6_stuckPlaces 29 = .ok (.ireturn, 1) := by decide +kernel
theorem dX6_countNow_0 : decode cX6_countNow 0 = .ok (.iload_n 1, 1) := by decide +kernel
theorem dX6_countNow_1 : decode cX6_countNow 1 = .ok (.tableswitch 118 0 8 #[51, 59, 66, 74, 82, 95, 100, 105, 110], 51) := by decide +kernel
theorem dX6_countNow_52 : decode cX6_countNow 52 = .ok (.aload_n 0, 1) := by decide +kernel
theorem dX6_countNow_53 : decode cX6_countNow 53 = .ok (.getfield 7, 3) := by decide +kernel
theorem dX6_countNow_56 : decode cX6_countNow 56 = .ok (.bipush 33, 2) := by decide +kernel
theorem dX6_countNow_58 : decode cX6_countNow 58 = .ok (.iaload, 1) := by decide +kernel
theorem dX6_countNow_59 : decode cX6_countNow 59 = .ok (.ireturn, 1) := by decide +kernel
theorem dX6_countNow_60 : decode cX6_countNow 60 = .ok (.aload_n 0, 1) := by decide +kernel
theorem dX6_countNow_61 : decode cX6_countNow 61 = .ok (.invokevirtual 128, 3) := by decide +kernel
theorem dX6_countNow_64 : decode cX6_countNow 64 = .ok (.iconst 5, 1) := by decide +kernel
theorem dX6_countNow_65 : decode cX6_countNow 65 = .ok (.irem, 1) := by decide +kernel
theorem dX6_countNow_66 : decode cX6_countNow 66 = .ok (.ireturn, 1) := by decide +kernel
theorem dX6_countNow_67 : decode cX6_countNow 67 = .ok (.aload_n 0, 1) := by decide +kernel
theorem dX6_countNow_68 : decode cX6_countNow 68 = .ok (.getfield 7, 3) := by decide +kernel
theorem dX6_countNow_71 : decode cX6_countNow 71 = .ok (.bipush 34, 2) := by decide +kernel
theorem dX6_countNow_73 : decode cX6_countNow 73 = .ok (.iaload, 1) := by decide +kernel
theorem dX6_countNow_74 : decode cX6_countNow 74 = .ok (.ireturn, 1) := by decide +kernel
theorem dX6_countNow_75 : decode cX6_countNow 75 = .ok (.bipush 6, 2) := by decide +kernel
theorem dX6_countNow_77 : decode cX6_countNow 77 = .ok (.aload_n 0, 1) := by decide +kernel
theorem dX6_countNow_78 : decode cX6_countNow 78 = .ok (.invokevirtual 116, 3) := by decide +kernel
theorem dX6_countNow_81 : decode cX6_countNow 81 = .ok (.isub, 1) := by decide +kernel
theorem dX6_countNow_82 : decode cX6_countNow 82 = .ok (.ireturn, 1) := by decide +kernel
theorem dX6_countNow_83 : decode cX6_countNow 83 = .ok (.aload_n 0, 1) := by decide +kernel
theorem dX6_countNow_84 : decode cX6_countNow 84 = .ok (.invokevirtual 80, 3) := by decide +kernel
theorem dX6_countNow_87 : decode cX6_countNow 87 = .ok (.ifCond .eq 7, 3) := by decide +kernel
theorem dX6_countNow_90 : decode cX6_countNow 90 = .ok (.iconst 1, 1) := by decide +kernel
theorem dX6_countNow_91 : decode cX6_countNow 91 = .ok (.goto 4, 3) := by decide +kernel
theorem dX6_countNow_94 : decode cX6_countNow 94 = .ok (.iconst 0, 1) := by decide +kernel
theorem dX6_countNow_95 : decode cX6_countNow 95 = .ok (.ireturn, 1) := by decide +kernel
theorem dX6_countNow_96 : decode cX6_countNow 96 = .ok (.aload_n 0, 1) := by decide +kernel
theorem dX6_countNow_97 : decode cX6_countNow 97 = .ok (.invokevirtual 76, 3) := by decide +kernel
theorem dX6_countNow_100 : decode cX6_countNow 100 = .ok (.ireturn, 1) := by decide +kernel
theorem dX6_countNow_101 : decode cX6_countNow 101 = .ok (.aload_n 0, 1) := by decide +kernel
theorem dX6_countNow_102 : decode cX6_countNow 102 = .ok (.invokevirtual 193, 3) := by decide +kernel
theorem dX6_countNow_105 : decode cX6_countNow 105 = .ok (.ireturn, 1) := by decide +kernel
theorem dX6_countNow_106 : decode cX6_countNow 106 = .ok (.aload_n 0, 1) := by decide +kernel
theorem dX6_countNow_107 : decode cX6_countNow 107 = .ok (.invokevirtual 125, 3) := by decide +kernel
theorem dX6_countNow_110 : decode cX6_countNow 110 = .ok (.ireturn, 1) := by decide +kernel
theorem dX6_countNow_111 : decode cX6_countNow 111 = .ok (.aload_n 0, 1) := by decide +kernel
theorem dX6_countNow_112 : decode cX6_countNow 112 = .ok (.getfield 7, 3) := by decide +kernel
theorem dX6_countNow_115 : decode cX6_countNow 115 = .ok (.bipush 35, 2) := by decide +kernel
theorem dX6_countNow_117 : decode cX6_countNow 117 = .ok (.iaload, 1) := by decide +kernel
theorem dX6_countNow_118 : decode cX6_countNow 118 = .ok (.ireturn, 1) := by decide +kernel
theorem dX6_countNow_119 : decode cX6_countNow 119 = .ok (.aload_n 0, 1) := by decide +kernel
theorem dX6_countNow_120 : decode cX6_countNow 120 = .ok (.getfield 54, 3) := by decide +kernel
theorem dX6_countNow_123 : decode cX6_countNow 123 = .ok (.ireturn, 1) := by decide +kernel
theorem dX6_count_0 : decode cX6_count 0 = .ok (.aload_n 0, 1) := by decide +kernel
theorem dX6_count_1 : decode cX6_count 1 = .ok (.iload_n 1, 1) := by decide +kernel
theorem dX6_count_2 : decode cX6_count 2 = .ok (.iconst 0, 1) := by decide +kernel
theorem dX6_count_3 : decode cX6_count 3 = .ok (.bipush 9, 2) := by decide +kernel
theorem dX6_count_5 : decode cX6_count 5 = .ok (.invokestatic 50, 3) := by decide +kernel
theorem dX6_count_8 : decode cX6_count 8 = .ok (.ifCond .eq 7, 3) := by decide +kernel
theorem dX6_count_11 : decode cX6_count 11 = .ok (.iconst 0, 1) := by decide +kernel
theorem dX6_count_12 : decode cX6_count 12 = .ok (.goto 4, 3) := by decide +kernel
theorem dX6_count_15 : decode cX6_count 15 = .ok (.iconst 1, 1) := by decide +kernel
theorem dX6_count_16 : decode cX6_count 16 = .ok (.putfield 46, 3) := by decide +kernel
theorem dX6_count_19 : decode cX6_count 19 = .ok (.aload_n 0, 1) := by decide +kernel
theorem dX6_count_20 : decode cX6_count 20 = .ok (.getfield 46, 3) := by decide +kernel
theorem dX6_count_23 : decode cX6_count 23 = .ok (.ifCond .le 7, 3) := by decide +kernel
theorem dX6_count_26 : decode cX6_count 26 = .ok (.iconst 0, 1) := by decide +kernel
theorem dX6_count_27 : decode cX6_count 27 = .ok (.goto 8, 3) := by decide +kernel
theorem dX6_count_30 : decode cX6_count 30 = .ok (.aload_n 0, 1) := by decide +kernel
theorem dX6_count_31 : decode cX6_count 31 = .ok (.iload_n 1, 1) := by decide +kernel
theorem dX6_count_32 : decode cX6_count 32 = .ok (.invokevirtual 196, 3) := by decide +kernel
theorem dX6_count_35 : decode cX6_count 35 = .ok (.ireturn, 1) := by decide +kernel
theorem dX6_opensBy_0 : decode cX6_opensBy 0 = .ok (.iload_n 1, 1) := by decide +kernel
theorem dX6_opensBy_1 : decode cX6_opensBy 1 = .ok (.istore_n 3, 1) := by decide +kernel
theorem dX6_opensBy_2 : decode cX6_opensBy 2 = .ok (.iconst 1, 1) := by decide +kernel
theorem dX6_opensBy_3 : decode cX6_opensBy 3 = .ok (.istore 4, 2) := by decide +kernel
theorem dX6_opensBy_5 : decode cX6_opensBy 5 = .ok (.aload_n 0, 1) := by decide +kernel
theorem dX6_opensBy_6 : decode cX6_opensBy 6 = .ok (.invokevirtual 165, 3) := by decide +kernel
theorem dX6_opensBy_9 : decode cX6_opensBy 9 = .ok (.iconst 0, 1) := by decide +kernel
theorem dX6_opensBy_10 : decode cX6_opensBy 10 = .ok (.istore 5, 2) := by decide +kernel
theorem dX6_opensBy_12 : decode cX6_opensBy 12 = .ok (.iload 5, 2) := by decide +kernel
theorem dX6_opensBy_14 : decode cX6_opensBy 14 = .ok (.iload_n 2, 1) := by decide +kernel
theorem dX6_opensBy_15 : decode cX6_opensBy 15 = .ok (.if_icmp .ge 54, 3) := by decide +kernel
theorem dX6_opensBy_18 : decode cX6_opensBy 18 = .ok (.iload_n 3, 1) := by decide +kernel
theorem dX6_opensBy_19 : decode cX6_opensBy 19 = .ok (.iload_n 2, 1) := by decide +kernel
theorem dX6_opensBy_20 : decode cX6_opensBy 20 = .ok (.iconst 1, 1) := by decide +kernel
theorem dX6_opensBy_21 : decode cX6_opensBy 21 = .ok (.isub, 1) := by decide +kernel
theorem dX6_opensBy_22 : decode cX6_opensBy 22 = .ok (.iload 5, 2) := by decide +kernel
theorem dX6_opensBy_24 : decode cX6_opensBy 24 = .ok (.isub, 1) := by decide +kernel
theorem dX6_opensBy_25 : decode cX6_opensBy 25 = .ok (.invokestatic 199, 3) := by decide +kernel
theorem dX6_opensBy_28 : decode cX6_opensBy 28 = .ok (.idiv, 1) := by decide +kernel
theorem dX6_opensBy_29 : decode cX6_opensBy 29 = .ok (.bipush 10, 2) := by decide +kernel
theorem dX6_opensBy_31 : decode cX6_opensBy 31 = .ok (.irem, 1) := by decide +kernel
theorem dX6_opensBy_32 : decode cX6_opensBy 32 = .ok (.istore 6, 2) := by decide +kernel
theorem dX6_opensBy_34 : decode cX6_opensBy 34 = .ok (.iload 4, 2) := by decide +kernel
theorem dX6_opensBy_36 : decode cX6_opensBy 36 = .ok (.ifCond .eq 18, 3) := by decide +kernel
theorem dX6_opensBy_39 : decode cX6_opensBy 39 = .ok (.aload_n 0, 1) := by decide +kernel
theorem dX6_opensBy_40 : decode cX6_opensBy 40 = .ok (.iload 6, 2) := by decide +kernel
theorem dX6_opensBy_42 : decode cX6_opensBy 42 = .ok (.iconst 5, 1) := by decide +kernel
theorem dX6_opensBy_43 : decode cX6_opensBy 43 = .ok (.irem, 1) := by decide +kernel
theorem dX6_opensBy_44 : decode cX6_opensBy 44 = .ok (.invokevirtual 95, 3) := by decide +kernel
theorem dX6_opensBy_47 : decode cX6_opensBy 47 = .ok (.ifCond .ne 7, 3) := by decide +kernel
theorem dX6_opensBy_50 : decode cX6_opensBy 50 = .ok (.iconst 1, 1) := by decide +kernel
theorem dX6_opensBy_51 : decode cX6_opensBy 51 = .ok (.goto 4, 3) := by decide +kernel
theorem dX6_opensBy_54 : decode cX6_opensBy 54 = .ok (.iconst 0, 1) := by decide +kernel
theorem dX6_opensBy_55 : decode cX6_opensBy 55 = .ok (.istore 4, 2) := by decide +kernel
theorem dX6_opensBy_57 : decode cX6_opensBy 57 = .ok (.aload_n 0, 1) := by decide +kernel
theorem dX6_opensBy_58 : decode cX6_opensBy 58 = .ok (.iload 6, 2) := by decide +kernel
theorem dX6_opensBy_60 : decode cX6_opensBy 60 = .ok (.invokevirtual 84, 3) := by decide +kernel
theorem dX6_opensBy_63 : decode cX6_opensBy 63 = .ok (.iinc 5 1, 3) := by decide +kernel
theorem dX6_opensBy_66 : decode cX6_opensBy 66 = .ok (.goto (-54), 3) := by decide +kernel
theorem dX6_opensBy_69 : decode cX6_opensBy 69 = .ok (.iload 4, 2) := by decide +kernel
theorem dX6_opensBy_71 : decode cX6_opensBy 71 = .ok (.ifCond .eq 14, 3) := by decide +kernel
theorem dX6_opensBy_74 : decode cX6_opensBy 74 = .ok (.aload_n 0, 1) := by decide +kernel
theorem dX6_opensBy_75 : decode cX6_opensBy 75 = .ok (.invokevirtual 80, 3) := by decide +kernel
theorem dX6_opensBy_78 : decode cX6_opensBy 78 = .ok (.ifCond .eq 7, 3) := by decide +kernel
theorem dX6_opensBy_81 : decode cX6_opensBy 81 = .ok (.iconst 1, 1) := by decide +kernel
theorem dX6_opensBy_82 : decode cX6_opensBy 82 = .ok (.goto 4, 3) := by decide +kernel
theorem dX6_opensBy_85 : decode cX6_opensBy 85 = .ok (.iconst 0, 1) := by decide +kernel
theorem dX6_opensBy_86 : decode cX6_opensBy 86 = .ok (.istore 4, 2) := by decide +kernel
theorem dX6_opensBy_88 : decode cX6_opensBy 88 = .ok (.aload_n 0, 1) := by decide +kernel
theorem dX6_opensBy_89 : decode cX6_opensBy 89 = .ok (.invokevirtual 171, 3) := by decide +kernel
theorem dX6_opensBy_92 : decode cX6_opensBy 92 = .ok (.iload 4, 2) := by decide +kernel
theorem dX6_opensBy_94 : decode cX6_opensBy 94 = .ok (.ireturn, 1) := by decide +kernel
theorem dX6_power_0 : decode cX6_power 0 = .ok (.iconst 1, 1) := by decide +kernel
theorem dX6_power_1 : decode cX6_power 1 = .ok (.istore_n 1, 1) := by decide +kernel
theorem dX6_power_2 : decode cX6_power 2 = .ok (.iconst 0, 1) := by decide +kernel
theorem dX6_power_3 : decode cX6_power 3 = .ok (.istore_n 2, 1) := by decide +kernel
theorem dX6_power_4 : decode cX6_power 4 = .ok (.iload_n 2, 1) := by decide +kernel
theorem dX6_power_5 : decode cX6_power 5 = .ok (.iload_n 0, 1) := by decide +kernel
theorem dX6_power_6 : decode cX6_power 6 = .ok (.if_icmp .ge 14, 3) := by decide +kernel
theorem dX6_power_9 : decode cX6_power 9 = .ok (.iload_n 1, 1) := by decide +kernel
theorem dX6_power_10 : decode cX6_power 10 = .ok (.bipush 10, 2) := by decide +kernel
theorem dX6_power_12 : decode cX6_power 12 = .ok (.imul, 1) := by decide +kernel
theorem dX6_power_13 : decode cX6_power 13 = .ok (.istore_n 1, 1) := by decide +kernel
theorem dX6_power_14 : decode cX6_power 14 = .ok (.iinc 2 1, 3) := by decide +kernel
theorem dX6_power_17 : decode cX6_power 17 = .ok (.goto (-13), 3) := by decide +kernel
theorem dX6_power_20 : decode cX6_power 20 = .ok (.iload_n 1, 1) := by decide +kernel
theorem dX6_power_21 : decode cX6_power 21 = .ok (.ireturn, 1) := by decide +kernel
theorem dX6_findOpen_0 : decode cX6_findOpen 0 = .ok (.aload_n 0, 1) := by decide +kernel
theorem dX6_findOpen_1 : decode cX6_findOpen 1 = .ok (.getfield 7, 3) := by decide +kernel
theorem dX6_findOpen_4 : decode cX6_findOpen 4 = .ok (.bipush 36, 2) := by decide +kernel
theorem dX6_findOpen_6 : decode cX6_findOpen 6 = .ok (.iaload, 1) := by decide +kernel
theorem dX6_findOpen_7 : decode cX6_findOpen 7 = .ok (.ifCond .ne 5, 3) := by decide +kernel
theorem dX6_findOpen_10 : decode cX6_findOpen 10 = .ok (.iconst (-1), 1) := by decide +kernel
theorem dX6_findOpen_11 : decode cX6_findOpen 11 = .ok (.ireturn, 1) := by decide +kernel
theorem dX6_findOpen_12 : decode cX6_findOpen 12 = .ok (.aload_n 0, 1) := by decide +kernel
theorem dX6_findOpen_13 : decode cX6_findOpen 13 = .ok (.invokevirtual 80, 3) := by decide +kernel
theorem dX6_findOpen_16 : decode cX6_findOpen 16 = .ok (.ifCond .eq 13, 3) := by decide +kernel
theorem dX6_findOpen_19 : decode cX6_findOpen 19 = .ok (.iload_n 1, 1) := by decide +kernel
theorem dX6_findOpen_20 : decode cX6_findOpen 20 = .ok (.ifCond .ne 7, 3) := by decide +kernel
theorem dX6_findOpen_23 : decode cX6_findOpen 23 = .ok (.iconst 0, 1) := by decide +kernel
theorem dX6_findOpen_24 : decode cX6_findOpen 24 = .ok (.goto 4, 3) := by decide +kernel
theorem dX6_findOpen_27 : decode cX6_findOpen 27 = .ok (.iconst (-1), 1) := by decide +kernel
theorem dX6_findOpen_28 : decode cX6_findOpen 28 = .ok (.ireturn, 1) := by decide +kernel
theorem dX6_findOpen_29 : decode cX6_findOpen 29 = .ok (.iconst 1, 1) := by decide +kernel
theorem dX6_findOpen_30 : decode cX6_findOpen 30 = .ok (.istore_n 2, 1) := by decide +kernel
theorem dX6_findOpen_31 : decode cX6_findOpen 31 = .ok (.iload_n 2, 1) := by decide +kernel
theorem dX6_findOpen_32 : decode cX6_findOpen 32 = .ok (.iconst 4, 1) := by decide +kernel
theorem dX6_findOpen_33 : decode cX6_findOpen 33 = .ok (.if_icmp .gt 51, 3) := by decide +kernel
theorem dX6_findOpen_36 : decode cX6_findOpen 36 = .ok (.iconst 0, 1) := by decide +kernel
theorem dX6_findOpen_37 : decode cX6_findOpen 37 = .ok (.istore_n 3, 1) := by decide +kernel
theorem dX6_findOpen_38 : decode cX6_findOpen 38 = .ok (.iload_n 3, 1) := by decide +kernel
theorem dX6_findOpen_39 : decode cX6_findOpen 39 = .ok (.iload_n 2, 1) := by decide +kernel
theorem dX6_findOpen_40 : decode cX6_findOpen 40 = .ok (.invokestatic 199, 3) := by decide +kernel
theorem dX6_findOpen_43 : decode cX6_findOpen 43 = .ok (.if_icmp .ge 35, 3) := by decide +kernel
theorem dX6_findOpen_46 : decode cX6_findOpen 46 = .ok (.aload_n 0, 1) := by decide +kernel
theorem dX6_findOpen_47 : decode cX6_findOpen 47 = .ok (.iload_n 3, 1) := by decide +kernel
theorem dX6_findOpen_48 : decode cX6_findOpen 48 = .ok (.iload_n 2, 1) := by decide +kernel
theorem dX6_findOpen_49 : decode cX6_findOpen 49 = .ok (.invokevirtual 202, 3) := by decide +kernel
theorem dX6_findOpen_52 : decode cX6_findOpen 52 = .ok (.ifCond .eq 20, 3) := by decide +kernel
theorem dX6_findOpen_55 : decode cX6_findOpen 55 = .ok (.iload_n 1, 1) := by decide +kernel
theorem dX6_findOpen_56 : decode cX6_findOpen 56 = .ok (.ifCond .ne 7, 3) := by decide +kernel
theorem dX6_findOpen_59 : decode cX6_findOpen 59 = .ok (.iload_n 2, 1) := by decide +kernel
theorem dX6_findOpen_60 : decode cX6_findOpen 60 = .ok (.goto 11, 3) := by decide +kernel
theorem dX6_findOpen_63 : decode cX6_findOpen 63 = .ok (.iload_n 3, 1) := by decide +kernel
theorem dX6_findOpen_64 : decode cX6_findOpen 64 = .ok (.iload_n 2, 1) := by decide +kernel
theorem dX6_findOpen_65 : decode cX6_findOpen 65 = .ok (.iconst 1, 1) := by decide +kernel
theorem dX6_findOpen_66 : decode cX6_findOpen 66 = .ok (.isub, 1) := by decide +kernel
theorem dX6_findOpen_67 : decode cX6_findOpen 67 = .ok (.invokestatic 199, 3) := by decide +kernel
theorem dX6_findOpen_70 : decode cX6_findOpen 70 = .ok (.idiv, 1) := by decide +kernel
theorem dX6_findOpen_71 : decode cX6_findOpen 71 = .ok (.ireturn, 1) := by decide +kernel
theorem dX6_findOpen_72 : decode cX6_findOpen 72 = .ok (.iinc 3 1, 3) := by decide +kernel
theorem dX6_findOpen_75 : decode cX6_findOpen 75 = .ok (.goto (-37), 3) := by decide +kernel
theorem dX6_findOpen_78 : decode cX6_findOpen 78 = .ok (.iinc 2 1, 3) := by decide +kernel
theorem dX6_findOpen_81 : decode cX6_findOpen 81 = .ok (.goto (-50), 3) := by decide +kernel
theorem dX6_findOpen_84 : decode cX6_findOpen 84 = .ok (.iconst (-1), 1) := by decide +kernel
theorem dX6_findOpen_85 : decode cX6_findOpen 85 = .ok (.ireturn, 1) := by decide +kernel
theorem dX6_openIn_0 : decode cX6_openIn 0 = .ok (.aload_n 0, 1) := by decide +kernel
theorem dX6_openIn_1 : decode cX6_openIn 1 = .ok (.iload_n 1, 1) := by decide +kernel
theorem dX6_openIn_2 : decode cX6_openIn 2 = .ok (.iconst 0, 1) := by decide +kernel
theorem dX6_openIn_3 : decode cX6_openIn 3 = .ok (.iconst 1, 1) := by decide +kernel
theorem dX6_openIn_4 : decode cX6_openIn 4 = .ok (.invokestatic 50, 3) := by decide +kernel
theorem dX6_openIn_7 : decode cX6_openIn 7 = .ok (.ifCond .eq 7, 3) := by decide +kernel
theorem dX6_openIn_10 : decode cX6_openIn 10 = .ok (.iconst 0, 1) := by decide +kernel
theorem dX6_openIn_11 : decode cX6_openIn 11 = .ok (.goto 4, 3) := by decide +kernel
theorem dX6_openIn_14 : decode cX6_openIn 14 = .ok (.iconst 1, 1) := by decide +kernel
theorem dX6_openIn_15 : decode cX6_openIn 15 = .ok (.putfield 46, 3) := by decide +kernel
theorem dX6_openIn_18 : decode cX6_openIn 18 = .ok (.aload_n 0, 1) := by decide +kernel
theorem dX6_openIn_19 : decode cX6_openIn 19 = .ok (.getfield 46, 3) := by decide +kernel
theorem dX6_openIn_22 : decode cX6_openIn 22 = .ok (.ifCond .le 7, 3) := by decide +kernel
theorem dX6_openIn_25 : decode cX6_openIn 25 = .ok (.iconst 0, 1) := by decide +kernel
theorem dX6_openIn_26 : decode cX6_openIn 26 = .ok (.goto 8, 3) := by decide +kernel
theorem dX6_openIn_29 : decode cX6_openIn 29 = .ok (.aload_n 0, 1) := by decide +kernel
theorem dX6_openIn_30 : decode cX6_openIn 30 = .ok (.iload_n 1, 1) := by decide +kernel
theorem dX6_openIn_31 : decode cX6_openIn 31 = .ok (.invokevirtual 205, 3) := by decide +kernel
theorem dX6_openIn_34 : decode cX6_openIn 34 = .ok (.ireturn, 1) := by decide +kernel
theorem dX6_rightIf_0 : decode cX6_rightIf 0 = .ok (.aload_n 0, 1) := by decide +kernel
theorem dX6_rightIf_1 : decode cX6_rightIf 1 = .ok (.invokevirtual 165, 3) := by decide +kernel
theorem dX6_rightIf_4 : decode cX6_rightIf 4 = .ok (.aload_n 0, 1) := by decide +kernel
theorem dX6_rightIf_5 : decode cX6_rightIf 5 = .ok (.iconst 5, 1) := by decide +kernel
theorem dX6_rightIf_6 : decode cX6_rightIf 6 = .ok (.iload_n 2, 1) := by decide +kernel
theorem dX6_rightIf_7 : decode cX6_rightIf 7 = .ok (.imul, 1) := by decide +kernel
theorem dX6_rightIf_8 : decode cX6_rightIf 8 = .ok (.iload_n 1, 1) := by decide +kernel
theorem dX6_rightIf_9 : decode cX6_rightIf 9 = .ok (.iadd, 1) := by decide +kernel
theorem dX6_rightIf_10 : decode cX6_rightIf 10 = .ok (.invokevirtual 84, 3) := by decide +kernel
theorem dX6_rightIf_13 : decode cX6_rightIf 13 = .ok (.aload_n 0, 1) := by decide +kernel
theorem dX6_rightIf_14 : decode cX6_rightIf 14 = .ok (.invokevirtual 76, 3) := by decide +kernel
theorem dX6_rightIf_17 : decode cX6_rightIf 17 = .ok (.istore_n 3, 1) := by decide +kernel
theorem dX6_rightIf_18 : decode cX6_rightIf 18 = .ok (.aload_n 0, 1) := by decide +kernel
theorem dX6_rightIf_19 : decode cX6_rightIf 19 = .ok (.invokevirtual 171, 3) := by decide +kernel
theorem dX6_rightIf_22 : decode cX6_rightIf 22 = .ok (.iload_n 3, 1) := by decide +kernel
theorem dX6_rightIf_23 : decode cX6_rightIf 23 = .ok (.ireturn, 1) := by decide +kernel
theorem dX6_ifTurned_0 : decode cX6_ifTurned 0 = .ok (.aload_n 0, 1) := by decide +kernel
theorem dX6_ifTurned_1 : decode cX6_ifTurned 1 = .ok (.iload_n 1, 1) := by decide +kernel
theorem dX6_ifTurned_2 : decode cX6_ifTurned 2 = .ok (.invokestatic 92, 3) := by decide +kernel
theorem dX6_ifTurned_5 : decode cX6_ifTurned 5 = .ok (.ifCond .ne 7, 3) := by decide +kernel
theorem dX6_ifTurned_8 : decode cX6_ifTurned 8 = .ok (.iconst 1, 1) := by decide +kernel
theorem dX6_ifTurned_9 : decode cX6_ifTurned 9 = .ok (.goto 17, 3) := by decide +kernel
theorem dX6_ifTurned_12 : decode cX6_ifTurned 12 = .ok (.iload_n 2, 1) := by decide +kernel
theorem dX6_ifTurned_13 : decode cX6_ifTurned 13 = .ok (.iconst 0, 1) := by decide +kernel
theorem dX6_ifTurned_14 : decode cX6_ifTurned 14 = .ok (.iconst 1, 1) := by decide +kernel
theorem dX6_ifTurned_15 : decode cX6_ifTurned 15 = .ok (.invokestatic 50, 3) := by decide +kernel
theorem dX6_ifTurned_18 : decode cX6_ifTurned 18 = .ok (.ifCond .eq 7, 3) := by decide +kernel
theorem dX6_ifTurned_21 : decode cX6_ifTurned 21 = .ok (.iconst 0, 1) := by decide +kernel
theorem dX6_ifTurned_22 : decode cX6_ifTurned 22 = .ok (.goto 4, 3) := by decide +kernel
theorem dX6_ifTurned_25 : decode cX6_ifTurned 25 = .ok (.iconst 2, 1) := by decide +kernel
theorem dX6_ifTurned_26 : decode cX6_ifTurned 26 = .ok (.putfield 46, 3) := by decide +kernel
theorem dX6_ifTurned_29 : decode cX6_ifTurned 29 = .ok (.aload_n 0, 1) := by decide +kernel
theorem dX6_ifTurned_30 : decode cX6_ifTurned 30 = .ok (.getfield 46, 3) := by decide +kernel
theorem dX6_ifTurned_33 : decode cX6_ifTurned 33 = .ok (.ifCond .le 7, 3) := by decide +kernel
theorem dX6_ifTurned_36 : decode cX6_ifTurned 36 = .ok (.iconst 0, 1) := by decide +kernel
theorem dX6_ifTurned_37 : decode cX6_ifTurned 37 = .ok (.goto 9, 3) := by decide +kernel
theorem dX6_ifTurned_40 : decode cX6_ifTurned 40 = .ok (.aload_n 0, 1) := by decide +kernel
theorem dX6_ifTurned_41 : decode cX6_ifTurned 41 = .ok (.iload_n 1, 1) := by decide +kernel
theorem dX6_ifTurned_42 : decode cX6_ifTurned 42 = .ok (.iload_n 2, 1) := by decide +kernel
theorem dX6_ifTurned_43 : decode cX6_ifTurned 43 = .ok (.invokevirtual 208, 3) := by decide +kernel
theorem dX6_ifTurned_46 : decode cX6_ifTurned 46 = .ok (.ireturn, 1) := by decide +kernel
theorem dX6_findClosest_0 : decode cX6_findClosest 0 = .ok (.iconst (-1), 1) := by decide +kernel
theorem dX6_findClosest_1 : decode cX6_findClosest 1 = .ok (.istore_n 1, 1) := by decide +kernel
theorem dX6_findClosest_2 : decode cX6_findClosest 2 = .ok (.bipush 7, 2) := by decide +kernel
theorem dX6_findClosest_4 : decode cX6_findClosest 4 = .ok (.istore_n 2, 1) := by decide +kernel
theorem dX6_findClosest_5 : decode cX6_findClosest 5 = .ok (.iconst 0, 1) := by decide +kernel
theorem dX6_findClosest_6 : decode cX6_findClosest 6 = .ok (.istore_n 3, 1) := by decide +kernel
theorem dX6_findClosest_7 : decode cX6_findClosest 7 = .ok (.iload_n 3, 1) := by decide +kernel
theorem dX6_findClosest_8 : decode cX6_findClosest 8 = .ok (.iconst 5, 1) := by decide +kernel
theorem dX6_findClosest_9 : decode cX6_findClosest 9 = .ok (.if_icmp .ge 52, 3) := by decide +kernel
theorem dX6_findClosest_12 : decode cX6_findClosest 12 = .ok (.iload_n 3, 1) := by decide +kernel
theorem dX6_findClosest_13 : decode cX6_findClosest 13 = .ok (.iconst 1, 1) := by decide +kernel
theorem dX6_findClosest_14 : decode cX6_findClosest 14 = .ok (.iadd, 1) := by decide +kernel
theorem dX6_findClosest_15 : decode cX6_findClosest 15 = .ok (.istore 4, 2) := by decide +kernel
theorem dX6_findClosest_17 : decode cX6_findClosest 17 = .ok (.iload 4, 2) := by decide +kernel
theorem dX6_findClosest_19 : decode cX6_findClosest 19 = .ok (.iconst 5, 1) := by decide +kernel
theorem dX6_findClosest_20 : decode cX6_findClosest 20 = .ok (.if_icmp .ge 35, 3) := by decide +kernel
theorem dX6_findClosest_23 : decode cX6_findClosest 23 = .ok (.aload_n 0, 1) := by decide +kernel
theorem dX6_findClosest_24 : decode cX6_findClosest 24 = .ok (.iload_n 3, 1) := by decide +kernel
theorem dX6_findClosest_25 : decode cX6_findClosest 25 = .ok (.iload 4, 2) := by decide +kernel
theorem dX6_findClosest_27 : decode cX6_findClosest 27 = .ok (.iconst 1, 1) := by decide +kernel
theorem dX6_findClosest_28 : decode cX6_findClosest 28 = .ok (.invokevirtual 183, 3) := by decide +kernel
theorem dX6_findClosest_31 : decode cX6_findClosest 31 = .ok (.istore 5, 2) := by decide +kernel
theorem dX6_findClosest_33 : decode cX6_findClosest 33 = .ok (.iload 5, 2) := by decide +kernel
theorem dX6_findClosest_35 : decode cX6_findClosest 35 = .ok (.iload_n 2, 1) := by decide +kernel
theorem dX6_findClosest_36 : decode cX6_findClosest 36 = .ok (.if_icmp .ge 13, 3) := by decide +kernel
theorem dX6_findClosest_39 : decode cX6_findClosest 39 = .ok (.iconst 5, 1) := by decide +kernel
theorem dX6_findClosest_40 : decode cX6_findClosest 40 = .ok (.iload_n 3, 1) := by decide +kernel
theorem dX6_findClosest_41 : decode cX6_findClosest 41 = .ok (.imul, 1) := by decide +kernel
theorem dX6_findClosest_42 : decode cX6_findClosest 42 = .ok (.iload 4, 2) := by decide +kernel
theorem dX6_findClosest_44 : decode cX6_findClosest 44 = .ok (.iadd, 1) := by decide +kernel
theorem dX6_findClosest_45 : decode cX6_findClosest 45 = .ok (.istore_n 1, 1) := by decide +kernel
theorem dX6_findClosest_46 : decode cX6_findClosest 46 = .ok (.iload 5, 2) := by decide +kernel
theorem dX6_findClosest_48 : decode cX6_findClosest 48 = .ok (.istore_n 2, 1) := by decide +kernel
theorem dX6_findClosest_49 : decode cX6_findClosest 49 = .ok (.iinc 4 1, 3) := by decide +kernel
theorem dX6_findClosest_52 : decode cX6_findClosest 52 = .ok (.goto (-35), 3) := by decide +kernel
theorem dX6_findClosest_55 : decode cX6_findClosest 55 = .ok (.iinc 3 1, 3) := by decide +kernel
theorem dX6_findClosest_58 : decode cX6_findClosest 58 = .ok (.goto (-51), 3) := by decide +kernel
theorem dX6_findClosest_61 : decode cX6_findClosest 61 = .ok (.iload_n 1, 1) := by decide +kernel
theorem dX6_findClosest_62 : decode cX6_findClosest 62 = .ok (.ireturn, 1) := by decide +kernel
theorem dX6_closest_0 : decode cX6_closest 0 = .ok (.aload_n 0, 1) := by decide +kernel
theorem dX6_closest_1 : decode cX6_closest 1 = .ok (.iconst 0, 1) := by decide +kernel
theorem dX6_closest_2 : decode cX6_closest 2 = .ok (.putfield 46, 3) := by decide +kernel
theorem dX6_closest_5 : decode cX6_closest 5 = .ok (.aload_n 0, 1) := by decide +kernel
theorem dX6_closest_6 : decode cX6_closest 6 = .ok (.invokevirtual 211, 3) := by decide +kernel
theorem dX6_closest_9 : decode cX6_closest 9 = .ok (.ireturn, 1) := by decide +kernel
theorem dX6_openShare_0 : decode cX6_openShare 0 = .ok (.aload_n 0, 1) := by decide +kernel
theorem dX6_openShare_1 : decode cX6_openShare 1 = .ok (.iconst 0, 1) := by decide +kernel
theorem dX6_openShare_2 : decode cX6_openShare 2 = .ok (.putfield 46, 3) := by decide +kernel
theorem dX6_openShare_5 : decode cX6_openShare 5 = .ok (.aload_n 0, 1) := by decide +kernel
theorem dX6_openShare_6 : decode cX6_openShare 6 = .ok (.invokevirtual 76, 3) := by decide +kernel
theorem dX6_openShare_9 : decode cX6_openShare 9 = .ok (.i2d, 1) := by decide +kernel
theorem dX6_openShare_10 : decode cX6_openShare 10 = .ok (.ldc2_w 214, 3) := by decide +kernel
theorem dX6_openShare_13 : decode cX6_openShare 13 = .ok (.ddiv, 1) := by decide +kernel
theorem dX6_openShare_14 : decode cX6_openShare 14 = .ok (.dreturn, 1) := by decide +kernel
theorem dX6_meanNotch_0 : decode cX6_meanNotch 0 = .ok (.aload_n 0, 1) := by decide +kernel
theorem dX6_meanNotch_1 : decode cX6_meanNotch 1 = .ok (.iconst 0, 1) := by decide +kernel
theorem dX6_meanNotch_2 : decode cX6_meanNotch 2 = .ok (.putfield 46, 3) := by decide +kernel
theorem dX6_meanNotch_5 : decode cX6_meanNotch 5 = .ok (.aload_n 0, 1) := by decide +kernel
theorem dX6_meanNotch_6 : decode cX6_meanNotch 6 = .ok (.invokevirtual 128, 3) := by decide +kernel
theorem dX6_meanNotch_9 : decode cX6_meanNotch 9 = .ok (.i2f, 1) := by decide +kernel
theorem dX6_meanNotch_10 : decode cX6_meanNotch 10 = .ok (.ldc 216, 2) := by decide +kernel
theorem dX6_meanNotch_12 : decode cX6_meanNotch 12 = .ok (.fdiv, 1) := by decide +kernel
theorem dX6_meanNotch_13 : decode cX6_meanNotch 13 = .ok (.freturn, 1) := by decide +kernel
theorem dX6_digest_0 : decode cX6_digest 0 = .ok (.aload_n 0, 1) := by decide +kernel
theorem dX6_digest_1 : decode cX6_digest 1 = .ok (.iconst 0, 1) := by decide +kernel
theorem dX6_digest_2 : decode cX6_digest 2 = .ok (.putfield 46, 3) := by decide +kernel
theorem dX6_digest_5 : decode cX6_digest 5 = .ok (.ldc2_w 217, 3) := by decide +kernel
theorem dX6_digest_8 : decode cX6_digest 8 = .ok (.lstore_n 1, 1) := by decide +kernel
theorem dX6_digest_9 : decode cX6_digest 9 = .ok (.iconst 0, 1) := by decide +kernel
theorem dX6_digest_10 : decode cX6_digest 10 = .ok (.istore_n 3, 1) := by decide +kernel
theorem dX6_digest_11 : decode cX6_digest 11 = .ok (.iload_n 3, 1) := by decide +kernel
theorem dX6_digest_12 : decode cX6_digest 12 = .ok (.bipush 10, 2) := by decide +kernel
theorem dX6_digest_14 : decode cX6_digest 14 = .ok (.if_icmp .ge 22, 3) := by decide +kernel
theorem dX6_digest_17 : decode cX6_digest 17 = .ok (.ldc2_w 219, 3) := by decide +kernel
theorem dX6_digest_20 : decode cX6_digest 20 = .ok (.lload_n 1, 1) := by decide +kernel
theorem dX6_digest_21 : decode cX6_digest 21 = .ok (.lmul, 1) := by decide +kernel
theorem dX6_digest_22 : decode cX6_digest 22 = .ok (.aload_n 0, 1) := by decide +kernel
theorem dX6_digest_23 : decode cX6_digest 23 = .ok (.iload_n 3, 1) := by decide +kernel
theorem dX6_digest_24 : decode cX6_digest 24 = .ok (.invokevirtual 196, 3) := by decide +kernel
theorem dX6_digest_27 : decode cX6_digest 27 = .ok (.i2l, 1) := by decide +kernel
theorem dX6_digest_28 : decode cX6_digest 28 = .ok (.ladd, 1) := by decide +kernel
theorem dX6_digest_29 : decode cX6_digest 29 = .ok (.lstore_n 1, 1) := by decide +kernel
theorem dX6_digest_30 : decode cX6_digest 30 = .ok (.iinc 3 1, 3) := by decide +kernel
theorem dX6_digest_33 : decode cX6_digest 33 = .ok (.goto (-22), 3) := by decide +kernel
theorem dX6_digest_36 : decode cX6_digest 36 = .ok (.iconst 0, 1) := by decide +kernel
theorem dX6_digest_37 : decode cX6_digest 37 = .ok (.istore_n 3, 1) := by decide +kernel
theorem dX6_digest_38 : decode cX6_digest 38 = .ok (.iload_n 3, 1) := by decide +kernel
theorem dX6_digest_39 : decode cX6_digest 39 = .ok (.bipush 6, 2) := by decide +kernel
theorem dX6_digest_41 : decode cX6_digest 41 = .ok (.if_icmp .ge 39, 3) := by decide +kernel
theorem dX6_digest_44 : decode cX6_digest 44 = .ok (.iconst 0, 1) := by decide +kernel
theorem dX6_digest_45 : decode cX6_digest 45 = .ok (.istore 4, 2) := by decide +kernel
theorem dX6_digest_47 : decode cX6_digest 47 = .ok (.iload 4, 2) := by decide +kernel
theorem dX6_digest_49 : decode cX6_digest 49 = .ok (.iconst 5, 1) := by decide +kernel
theorem dX6_digest_50 : decode cX6_digest 50 = .ok (.if_icmp .ge 24, 3) := by decide +kernel
theorem dX6_digest_53 : decode cX6_digest 53 = .ok (.ldc2_w 219, 3) := by decide +kernel
theorem dX6_digest_56 : decode cX6_digest 56 = .ok (.lload_n 1, 1) := by decide +kernel
theorem dX6_digest_57 : decode cX6_digest 57 = .ok (.lmul, 1) := by decide +kernel
theorem dX6_digest_58 : decode cX6_digest 58 = .ok (.aload_n 0, 1) := by decide +kernel
theorem dX6_digest_59 : decode cX6_digest 59 = .ok (.iload_n 3, 1) := by decide +kernel
theorem dX6_digest_60 : decode cX6_digest 60 = .ok (.iload 4, 2) := by decide +kernel
theorem dX6_digest_62 : decode cX6_digest 62 = .ok (.invokevirtual 159, 3) := by decide +kernel
theorem dX6_digest_65 : decode cX6_digest 65 = .ok (.i2l, 1) := by decide +kernel
theorem dX6_digest_66 : decode cX6_digest 66 = .ok (.ladd, 1) := by decide +kernel
theorem dX6_digest_67 : decode cX6_digest 67 = .ok (.lstore_n 1, 1) := by decide +kernel
theorem dX6_digest_68 : decode cX6_digest 68 = .ok (.iinc 4 1, 3) := by decide +kernel
theorem dX6_digest_71 : decode cX6_digest 71 = .ok (.goto (-24), 3) := by decide +kernel
theorem dX6_digest_74 : decode cX6_digest 74 = .ok (.iinc 3 1, 3) := by decide +kernel
theorem dX6_digest_77 : decode cX6_digest 77 = .ok (.goto (-39), 3) := by decide +kernel
theorem dX6_digest_80 : decode cX6_digest 80 = .ok (.iconst 0, 1) := by decide +kernel
theorem dX6_digest_81 : decode cX6_digest 81 = .ok (.istore_n 3, 1) := by decide +kernel
theorem dX6_digest_82 : decode cX6_digest 82 = .ok (.iload_n 3, 1) := by decide +kernel
theorem dX6_digest_83 : decode cX6_digest 83 = .ok (.iconst 5, 1) := by decide +kernel
theorem dX6_digest_84 : decode cX6_digest 84 = .ok (.if_icmp .ge 66, 3) := by decide +kernel
theorem dX6_digest_87 : decode cX6_digest 87 = .ok (.iconst 0, 1) := by decide +kernel
theorem dX6_digest_88 : decode cX6_digest 88 = .ok (.istore 4, 2) := by decide +kernel
theorem dX6_digest_90 : decode cX6_digest 90 = .ok (.iload 4, 2) := by decide +kernel
theorem dX6_digest_92 : decode cX6_digest 92 = .ok (.bipush 6, 2) := by decide +kernel
theorem dX6_digest_94 : decode cX6_digest 94 = .ok (.if_icmp .ge 24, 3) := by decide +kernel
theorem dX6_digest_97 : decode cX6_digest 97 = .ok (.ldc2_w 219, 3) := by decide +kernel
theorem dX6_digest_100 : decode cX6_digest 100 = .ok (.lload_n 1, 1) := by decide +kernel
theorem dX6_digest_101 : decode cX6_digest 101 = .ok (.lmul, 1) := by decide +kernel
theorem dX6_digest_102 : decode cX6_digest 102 = .ok (.aload_n 0, 1) := by decide +kernel
theorem dX6_digest_103 : decode cX6_digest 103 = .ok (.iload_n 3, 1) := by decide +kernel
theorem dX6_digest_104 : decode cX6_digest 104 = .ok (.iload 4, 2) := by decide +kernel
theorem dX6_digest_106 : decode cX6_digest 106 = .ok (.invokevirtual 177, 3) := by decide +kernel
theorem dX6_digest_109 : decode cX6_digest 109 = .ok (.i2l, 1) := by decide +kernel
theorem dX6_digest_110 : decode cX6_digest 110 = .ok (.ladd, 1) := by decide +kernel
theorem dX6_digest_111 : decode cX6_digest 111 = .ok (.lstore_n 1, 1) := by decide +kernel
theorem dX6_digest_112 : decode cX6_digest 112 = .ok (.iinc 4 1, 3) := by decide +kernel
theorem dX6_digest_115 : decode cX6_digest 115 = .ok (.goto (-25), 3) := by decide +kernel
theorem dX6_digest_118 : decode cX6_digest 118 = .ok (.ldc2_w 219, 3) := by decide +kernel
theorem dX6_digest_121 : decode cX6_digest 121 = .ok (.ldc2_w 219, 3) := by decide +kernel
theorem dX6_digest_124 : decode cX6_digest 124 = .ok (.lload_n 1, 1) := by decide +kernel
theorem dX6_digest_125 : decode cX6_digest 125 = .ok (.lmul, 1) := by decide +kernel
theorem dX6_digest_126 : decode cX6_digest 126 = .ok (.aload_n 0, 1) := by decide +kernel
theorem dX6_digest_127 : decode cX6_digest 127 = .ok (.iload_n 3, 1) := by decide +kernel
theorem dX6_digest_128 : decode cX6_digest 128 = .ok (.iconst 0, 1) := by decide +kernel
theorem dX6_digest_129 : decode cX6_digest 129 = .ok (.invokevirtual 208, 3) := by decide +kernel
theorem dX6_digest_132 : decode cX6_digest 132 = .ok (.i2l, 1) := by decide +kernel
theorem dX6_digest_133 : decode cX6_digest 133 = .ok (.ladd, 1) := by decide +kernel
theorem dX6_digest_134 : decode cX6_digest 134 = .ok (.lmul, 1) := by decide +kernel
theorem dX6_digest_135 : decode cX6_digest 135 = .ok (.aload_n 0, 1) := by decide +kernel
theorem dX6_digest_136 : decode cX6_digest 136 = .ok (.iload_n 3, 1) := by decide +kernel
theorem dX6_digest_137 : decode cX6_digest 137 = .ok (.iconst 1, 1) := by decide +kernel
theorem dX6_digest_138 : decode cX6_digest 138 = .ok (.invokevirtual 208, 3) := by decide +kernel
theorem dX6_digest_141 : decode cX6_digest 141 = .ok (.i2l, 1) := by decide +kernel
theorem dX6_digest_142 : decode cX6_digest 142 = .ok (.ladd, 1) := by decide +kernel
theorem dX6_digest_143 : decode cX6_digest 143 = .ok (.lstore_n 1, 1) := by decide +kernel
theorem dX6_digest_144 : decode cX6_digest 144 = .ok (.iinc 3 1, 3) := by decide +kernel
theorem dX6_digest_147 : decode cX6_digest 147 = .ok (.goto (-65), 3) := by decide +kernel
theorem dX6_digest_150 : decode cX6_digest 150 = .ok (.iconst 0, 1) := by decide +kernel
theorem dX6_digest_151 : decode cX6_digest 151 = .ok (.istore_n 3, 1) := by decide +kernel
theorem dX6_digest_152 : decode cX6_digest 152 = .ok (.iload_n 3, 1) := by decide +kernel
theorem dX6_digest_153 : decode cX6_digest 153 = .ok (.bipush 125, 2) := by decide +kernel
theorem dX6_digest_155 : decode cX6_digest 155 = .ok (.if_icmp .ge 33, 3) := by decide +kernel
theorem dX6_digest_158 : decode cX6_digest 158 = .ok (.ldc2_w 219, 3) := by decide +kernel
theorem dX6_digest_161 : decode cX6_digest 161 = .ok (.lload_n 1, 1) := by decide +kernel
theorem dX6_digest_162 : decode cX6_digest 162 = .ok (.lmul, 1) := by decide +kernel
theorem dX6_digest_163 : decode cX6_digest 163 = .ok (.aload_n 0, 1) := by decide +kernel
theorem dX6_digest_164 : decode cX6_digest 164 = .ok (.iload_n 3, 1) := by decide +kernel
theorem dX6_digest_165 : decode cX6_digest 165 = .ok (.bipush 25, 2) := by decide +kernel
theorem dX6_digest_167 : decode cX6_digest 167 = .ok (.idiv, 1) := by decide +kernel
theorem dX6_digest_168 : decode cX6_digest 168 = .ok (.iload_n 3, 1) := by decide +kernel
theorem dX6_digest_169 : decode cX6_digest 169 = .ok (.iconst 5, 1) := by decide +kernel
theorem dX6_digest_170 : decode cX6_digest 170 = .ok (.idiv, 1) := by decide +kernel
theorem dX6_digest_171 : decode cX6_digest 171 = .ok (.iconst 5, 1) := by decide +kernel
theorem dX6_digest_172 : decode cX6_digest 172 = .ok (.irem, 1) := by decide +kernel
theorem dX6_digest_173 : decode cX6_digest 173 = .ok (.iload_n 3, 1) := by decide +kernel
theorem dX6_digest_174 : decode cX6_digest 174 = .ok (.iconst 5, 1) := by decide +kernel
theorem dX6_digest_175 : decode cX6_digest 175 = .ok (.irem, 1) := by decide +kernel
theorem dX6_digest_176 : decode cX6_digest 176 = .ok (.invokevirtual 183, 3) := by decide +kernel
theorem dX6_digest_179 : decode cX6_digest 179 = .ok (.i2l, 1) := by decide +kernel
theorem dX6_digest_180 : decode cX6_digest 180 = .ok (.ladd, 1) := by decide +kernel
theorem dX6_digest_181 : decode cX6_digest 181 = .ok (.lstore_n 1, 1) := by decide +kernel
theorem dX6_digest_182 : decode cX6_digest 182 = .ok (.iinc 3 1, 3) := by decide +kernel
theorem dX6_digest_185 : decode cX6_digest 185 = .ok (.goto (-33), 3) := by decide +kernel
theorem dX6_digest_188 : decode cX6_digest 188 = .ok (.ldc2_w 219, 3) := by decide +kernel
theorem dX6_digest_191 : decode cX6_digest 191 = .ok (.ldc2_w 219, 3) := by decide +kernel
theorem dX6_digest_194 : decode cX6_digest 194 = .ok (.ldc2_w 219, 3) := by decide +kernel
theorem dX6_digest_197 : decode cX6_digest 197 = .ok (.lload_n 1, 1) := by decide +kernel
theorem dX6_digest_198 : decode cX6_digest 198 = .ok (.lmul, 1) := by decide +kernel
theorem dX6_digest_199 : decode cX6_digest 199 = .ok (.aload_n 0, 1) := by decide +kernel
theorem dX6_digest_200 : decode cX6_digest 200 = .ok (.iconst 0, 1) := by decide +kernel
theorem dX6_digest_201 : decode cX6_digest 201 = .ok (.invokevirtual 205, 3) := by decide +kernel
theorem dX6_digest_204 : decode cX6_digest 204 = .ok (.i2l, 1) := by decide +kernel
theorem dX6_digest_205 : decode cX6_digest 205 = .ok (.ladd, 1) := by decide +kernel
theorem dX6_digest_206 : decode cX6_digest 206 = .ok (.lmul, 1) := by decide +kernel
theorem dX6_digest_207 : decode cX6_digest 207 = .ok (.aload_n 0, 1) := by decide +kernel
theorem dX6_digest_208 : decode cX6_digest 208 = .ok (.iconst 1, 1) := by decide +kernel
theorem dX6_digest_209 : decode cX6_digest 209 = .ok (.invokevirtual 205, 3) := by decide +kernel
theorem dX6_digest_212 : decode cX6_digest 212 = .ok (.i2l, 1) := by decide +kernel
theorem dX6_digest_213 : decode cX6_digest 213 = .ok (.ladd, 1) := by decide +kernel
theorem dX6_digest_214 : decode cX6_digest 214 = .ok (.lmul, 1) := by decide +kernel
theorem dX6_digest_215 : decode cX6_digest 215 = .ok (.aload_n 0, 1) := by decide +kernel
theorem dX6_digest_216 : decode cX6_digest 216 = .ok (.invokevirtual 211, 3) := by decide +kernel
theorem dX6_digest_219 : decode cX6_digest 219 = .ok (.i2l, 1) := by decide +kernel
theorem dX6_digest_220 : decode cX6_digest 220 = .ok (.ladd, 1) := by decide +kernel
theorem dX6_digest_221 : decode cX6_digest 221 = .ok (.lstore_n 1, 1) := by decide +kernel
theorem dX6_digest_222 : decode cX6_digest 222 = .ok (.ldc2_w 219, 3) := by decide +kernel
theorem dX6_digest_225 : decode cX6_digest 225 = .ok (.lload_n 1, 1) := by decide +kernel
theorem dX6_digest_226 : decode cX6_digest 226 = .ok (.lmul, 1) := by decide +kernel
theorem dX6_digest_227 : decode cX6_digest 227 = .ok (.aload_n 0, 1) := by decide +kernel
theorem dX6_digest_228 : decode cX6_digest 228 = .ok (.invokevirtual 76, 3) := by decide +kernel
theorem dX6_digest_231 : decode cX6_digest 231 = .ok (.i2d, 1) := by decide +kernel
theorem dX6_digest_232 : decode cX6_digest 232 = .ok (.ldc2_w 214, 3) := by decide +kernel
theorem dX6_digest_235 : decode cX6_digest 235 = .ok (.ddiv, 1) := by decide +kernel
theorem dX6_digest_236 : decode cX6_digest 236 = .ok (.invokestatic 221, 3) := by decide +kernel
theorem dX6_digest_239 : decode cX6_digest 239 = .ok (.ladd, 1) := by decide +kernel
theorem dX6_digest_240 : decode cX6_digest 240 = .ok (.lstore_n 1, 1) := by decide +kernel
theorem dX6_digest_241 : decode cX6_digest 241 = .ok (.ldc2_w 219, 3) := by decide +kernel
theorem dX6_digest_244 : decode cX6_digest 244 = .ok (.lload_n 1, 1) := by decide +kernel
theorem dX6_digest_245 : decode cX6_digest 245 = .ok (.lmul, 1) := by decide +kernel
theorem dX6_digest_246 : decode cX6_digest 246 = .ok (.aload_n 0, 1) := by decide +kernel
theorem dX6_digest_247 : decode cX6_digest 247 = .ok (.invokevirtual 128, 3) := by decide +kernel
theorem dX6_digest_250 : decode cX6_digest 250 = .ok (.i2f, 1) := by decide +kernel
theorem dX6_digest_251 : decode cX6_digest 251 = .ok (.ldc 216, 2) := by decide +kernel
theorem dX6_digest_253 : decode cX6_digest 253 = .ok (.fdiv, 1) := by decide +kernel
theorem dX6_digest_254 : decode cX6_digest 254 = .ok (.invokestatic 227, 3) := by decide +kernel
theorem dX6_digest_257 : decode cX6_digest 257 = .ok (.i2l, 1) := by decide +kernel
theorem dX6_digest_258 : decode cX6_digest 258 = .ok (.ladd, 1) := by decide +kernel
theorem dX6_digest_259 : decode cX6_digest 259 = .ok (.lstore_n 1, 1) := by decide +kernel
theorem dX6_digest_260 : decode cX6_digest 260 = .ok (.ldc2_w 219, 3) := by decide +kernel
theorem dX6_digest_263 : decode cX6_digest 263 = .ok (.lload_n 1, 1) := by decide +kernel
theorem dX6_digest_264 : decode cX6_digest 264 = .ok (.lmul, 1) := by decide +kernel
theorem dX6_digest_265 : decode cX6_digest 265 = .ok (.aload_n 0, 1) := by decide +kernel
theorem dX6_digest_266 : decode cX6_digest 266 = .ok (.getfield 57, 3) := by decide +kernel
theorem dX6_digest_269 : decode cX6_digest 269 = .ok (.ifCond .eq 7, 3) := by decide +kernel
theorem dX6_digest_272 : decode cX6_digest 272 = .ok (.iconst 1, 1) := by decide +kernel
theorem dX6_digest_273 : decode cX6_digest 273 = .ok (.goto 4, 3) := by decide +kernel
theorem dX6_digest_276 : decode cX6_digest 276 = .ok (.iconst 0, 1) := by decide +kernel
theorem dX6_digest_277 : decode cX6_digest 277 = .ok (.i2l, 1) := by decide +kernel
theorem dX6_digest_278 : decode cX6_digest 278 = .ok (.ladd, 1) := by decide +kernel
theorem dX6_digest_279 : decode cX6_digest 279 = .ok (.lstore_n 1, 1) := by decide +kernel
theorem dX6_digest_280 : decode cX6_digest 280 = .ok (.ldc2_w 219, 3) := by decide +kernel
theorem dX6_digest_283 : decode cX6_digest 283 = .ok (.lload_n 1, 1) := by decide +kernel
theorem dX6_digest_284 : decode cX6_digest 284 = .ok (.lmul, 1) := by decide +kernel
theorem dX6_digest_285 : decode cX6_digest 285 = .ok (.aload_n 0, 1) := by decide +kernel
theorem dX6_digest_286 : decode cX6_digest 286 = .ok (.getfield 113, 3) := by decide +kernel
theorem dX6_digest_289 : decode cX6_digest 289 = .ok (.i2l, 1) := by decide +kernel
theorem dX6_digest_290 : decode cX6_digest 290 = .ok (.ladd, 1) := by decide +kernel
theorem dX6_digest_291 : decode cX6_digest 291 = .ok (.lstore_n 1, 1) := by decide +kernel
theorem dX6_digest_292 : decode cX6_digest 292 = .ok (.iconst 0, 1) := by decide +kernel
theorem dX6_digest_293 : decode cX6_digest 293 = .ok (.istore_n 3, 1) := by decide +kernel
theorem dX6_digest_294 : decode cX6_digest 294 = .ok (.iload_n 3, 1) := by decide +kernel
theorem dX6_digest_295 : decode cX6_digest 295 = .ok (.aload_n 0, 1) := by decide +kernel
theorem dX6_digest_296 : decode cX6_digest 296 = .ok (.getfield 113, 3) := by decide +kernel
theorem dX6_digest_299 : decode cX6_digest 299 = .ok (.if_icmp .ge 23, 3) := by decide +kernel
theorem dX6_digest_302 : decode cX6_digest 302 = .ok (.ldc2_w 219, 3) := by decide +kernel
theorem dX6_digest_305 : decode cX6_digest 305 = .ok (.lload_n 1, 1) := by decide +kernel
theorem dX6_digest_306 : decode cX6_digest 306 = .ok (.lmul, 1) := by decide +kernel
theorem dX6_digest_307 : decode cX6_digest 307 = .ok (.aload_n 0, 1) := by decide +kernel
theorem dX6_digest_308 : decode cX6_digest 308 = .ok (.getfield 22, 3) := by decide +kernel
theorem dX6_digest_311 : decode cX6_digest 311 = .ok (.iload_n 3, 1) := by decide +kernel
theorem dX6_digest_312 : decode cX6_digest 312 = .ok (.iaload, 1) := by decide +kernel
theorem dX6_digest_313 : decode cX6_digest 313 = .ok (.i2l, 1) := by decide +kernel
theorem dX6_digest_314 : decode cX6_digest 314 = .ok (.ladd, 1) := by decide +kernel
theorem dX6_digest_315 : decode cX6_digest 315 = .ok (.lstore_n 1, 1) := by decide +kernel
theorem dX6_digest_316 : decode cX6_digest 316 = .ok (.iinc 3 1, 3) := by decide +kernel
theorem dX6_digest_319 : decode cX6_digest 319 = .ok (.goto (-25), 3) := by decide +kernel
theorem dX6_digest_322 : decode cX6_digest 322 = .ok (.lload_n 1, 1) := by decide +kernel
theorem dX6_digest_323 : decode cX6_digest 323 = .ok (.lreturn, 1) := by decide +kernel
end
section
theorem dL_turn_0 : decode cL_turn 0 = .ok (.aload_n 2, 1) := by decide +kernel
theorem dL_turn_1 : decode cL_turn 1 = .ok (.iconst 0, 1) := by decide +kernel
theorem dL_turn_2 : decode cL_turn 2 = .ok (.aload_n 0, 1) := by decide +kernel
theorem dL_turn_3 : decode cL_turn 3 = .ok (.iload_n 1, 1) := by decide +kernel
theorem dL_turn_4 : decode cL_turn 4 = .ok (.invokevirtual 7, 3) := by decide +kernel
theorem dL_turn_7 : decode cL_turn 7 = .ok (.i2l, 1) := by decide +kernel
theorem dL_turn_8 : decode cL_turn 8 = .ok (.lastore, 1) := by decide +kernel
theorem dL_turn_9 : decode cL_turn 9 = .ok (.goto 9, 3) := by decide +kernel
theorem dL_turn_12 : decode cL_turn 12 = .ok (.astore_n 3, 1) := by decide +kernel
theorem dL_turn_13 : decode cL_turn 13 = .ok (.iconst 1, 1) := by decide +kernel
theorem dL_turn_14 : decode cL_turn 14 = .ok (.ireturn, 1) := by decide +kernel
theorem dL_turn_15 : decode cL_turn 15 = .ok (.astore_n 3, 1) := by decide +kernel
theorem dL_turn_16 : decode cL_turn 16 = .ok (.iconst 2, 1) := by decide +kernel
theorem dL_turn_17 : decode cL_turn 17 = .ok (.ireturn, 1) := by decide +kernel
theorem dL_turn_18 : decode cL_turn 18 = .ok (.iconst 0, 1) := by decide +kernel
theorem dL_turn_19 : decode cL_turn 19 = .ok (.ireturn, 1) := by decide +kernel
theorem dL_back_0 : decode cL_back 0 = .ok (.aload_n 2, 1) := by decide +kernel
theorem dL_back_1 : decode cL_back 1 = .ok (.iconst 0, 1) := by decide +kernel
theorem dL_back_2 : decode cL_back 2 = .ok (.aload_n 0, 1) := by decide +kernel
theorem dL_back_3 : decode cL_back 3 = .ok (.iload_n 1, 1) := by decide +kernel
theorem dL_back_4 : decode cL_back 4 = .ok (.invokevirtual 17, 3) := by decide +kernel
theorem dL_back_7 : decode cL_back 7 = .ok (.i2l, 1) := by decide +kernel
theorem dL_back_8 : decode cL_back 8 = .ok (.lastore, 1) := by decide +kernel
theorem dL_back_9 : decode cL_back 9 = .ok (.goto 9, 3) := by decide +kernel
theorem dL_back_12 : decode cL_back 12 = .ok (.astore_n 3, 1) := by decide +kernel
theorem dL_back_13 : decode cL_back 13 = .ok (.iconst 1, 1) := by decide +kernel
theorem dL_back_14 : decode cL_back 14 = .ok (.ireturn, 1) := by decide +kernel
theorem dL_back_15 : decode cL_back 15 = .ok (.astore_n 3, 1) := by decide +kernel
theorem dL_back_16 : decode cL_back 16 = .ok (.iconst 2, 1) := by decide +kernel
theorem dL_back_17 : decode cL_back 17 = .ok (.ireturn, 1) := by decide +kernel
theorem dL_back_18 : decode cL_back 18 = .ok (.iconst 0, 1) := by decide +kernel
theorem dL_back_19 : decode cL_back 19 = .ok (.ireturn, 1) := by decide +kernel
theorem dL_word_0 : decode cL_word 0 = .ok (.aload_n 1, 1) := by decide +kernel
theorem dL_word_1 : decode cL_word 1 = .ok (.iconst 0, 1) := by decide +kernel
theorem dL_word_2 : decode cL_word 2 = .ok (.aload_n 0, 1) := by decide +kernel
theorem dL_word_3 : decode cL_word 3 = .ok (.invokevirtual 20, 3) := by decide +kernel
theorem dL_word_6 : decode cL_word 6 = .ok (.i2l, 1) := by decide +kernel
theorem dL_word_7 : decode cL_word 7 = .ok (.lastore, 1) := by decide +kernel
theorem dL_word_8 : decode cL_word 8 = .ok (.goto 9, 3) := by decide +kernel
theorem dL_word_11 : decode cL_word 11 = .ok (.astore_n 2, 1) := by decide +kernel
theorem dL_word_12 : decode cL_word 12 = .ok (.iconst 1, 1) := by decide +kernel
theorem dL_word_13 : decode cL_word 13 = .ok (.ireturn, 1) := by decide +kernel
theorem dL_word_14 : decode cL_word 14 = .ok (.astore_n 2, 1) := by decide +kernel
theorem dL_word_15 : decode cL_word 15 = .ok (.iconst 2, 1) := by decide +kernel
theorem dL_word_16 : decode cL_word 16 = .ok (.ireturn, 1) := by decide +kernel
theorem dL_word_17 : decode cL_word 17 = .ok (.iconst 0, 1) := by decide +kernel
theorem dL_word_18 : decode cL_word 18 = .ok (.ireturn, 1) := by decide +kernel
theorem dL_cut_0 : decode cL_cut 0 = .ok (.aload 4, 2) := by decide +kernel
theorem dL_cut_2 : decode cL_cut 2 = .ok (.iconst 0, 1) := by decide +kernel
theorem dL_cut_3 : decode cL_cut 3 = .ok (.aload_n 0, 1) := by decide +kernel
theorem dL_cut_4 : decode cL_cut 4 = .ok (.iload_n 1, 1) := by decide +kernel
theorem dL_cut_5 : decode cL_cut 5 = .ok (.iload_n 2, 1) := by decide +kernel
theorem dL_cut_6 : decode cL_cut 6 = .ok (.iload_n 3, 1) := by decide +kernel
theorem dL_cut_7 : decode cL_cut 7 = .ok (.invokevirtual 26, 3) := by decide +kernel
theorem dL_cut_10 : decode cL_cut 10 = .ok (.i2l, 1) := by decide +kernel
theorem dL_cut_11 : decode cL_cut 11 = .ok (.lastore, 1) := by decide +kernel
theorem dL_cut_12 : decode cL_cut 12 = .ok (.goto 11, 3) := by decide +kernel
theorem dL_cut_15 : decode cL_cut 15 = .ok (.astore 5, 2) := by decide +kernel
theorem dL_cut_17 : decode cL_cut 17 = .ok (.iconst 1, 1) := by decide +kernel
theorem dL_cut_18 : decode cL_cut 18 = .ok (.ireturn, 1) := by decide +kernel
theorem dL_cut_19 : decode cL_cut 19 = .ok (.astore 5, 2) := by decide +kernel
theorem dL_cut_21 : decode cL_cut 21 = .ok (.iconst 2, 1) := by decide +kernel
theorem dL_cut_22 : decode cL_cut 22 = .ok (.ireturn, 1) := by decide +kernel
theorem dL_cut_23 : decode cL_cut 23 = .ok (.iconst 0, 1) := by decide +kernel
theorem dL_cut_24 : decode cL_cut 24 = .ok (.ireturn, 1) := by decide +kernel
theorem dL_stick_0 : decode cL_stick 0 = .ok (.aload_n 2, 1) := by decide +kernel
theorem dL_stick_1 : decode cL_stick 1 = .ok (.iconst 0, 1) := by decide +kernel
theorem dL_stick_2 : decode cL_stick 2 = .ok (.aload_n 0, 1) := by decide +kernel
theorem dL_stick_3 : decode cL_stick 3 = .ok (.iload_n 1, 1) := by decide +kernel
theorem dL_stick_4 : decode cL_stick 4 = .ok (.invokevirtual 30, 3) := by decide +kernel
theorem dL_stick_7 : decode cL_stick 7 = .ok (.i2l, 1) := by decide +kernel
theorem dL_stick_8 : decode cL_stick 8 = .ok (.lastore, 1) := by decide +kernel
theorem dL_stick_9 : decode cL_stick 9 = .ok (.goto 6, 3) := by decide +kernel
theorem dL_stick_12 : decode cL_stick 12 = .ok (.astore_n 3, 1) := by decide +kernel
theorem dL_stick_13 : decode cL_stick 13 = .ok (.iconst 1, 1) := by decide +kernel
theorem dL_stick_14 : decode cL_stick 14 = .ok (.ireturn, 1) := by decide +kernel
theorem dL_stick_15 : decode cL_stick 15 = .ok (.iconst 0, 1) := by decide +kernel
theorem dL_stick_16 : decode cL_stick 16 = .ok (.ireturn, 1) := by decide +kernel
theorem dL_append_0 : decode cL_append 0 = .ok (.aload_n 2, 1) := by decide +kernel
theorem dL_append_1 : decode cL_append 1 = .ok (.iconst 0, 1) := by decide +kernel
theorem dL_append_2 : decode cL_append 2 = .ok (.aload_n 0, 1) := by decide +kernel
theorem dL_append_3 : decode cL_append 3 = .ok (.iload_n 1, 1) := by decide +kernel
theorem dL_append_4 : decode cL_append 4 = .ok (.invokevirtual 33, 3) := by decide +kernel
theorem dL_append_7 : decode cL_append 7 = .ok (.i2l, 1) := by decide +kernel
theorem dL_append_8 : decode cL_append 8 = .ok (.lastore, 1) := by decide +kernel
theorem dL_append_9 : decode cL_append 9 = .ok (.goto 9, 3) := by decide +kernel
theorem dL_append_12 : decode cL_append 12 = .ok (.astore_n 3, 1) := by decide +kernel
theorem dL_append_13 : decode cL_append 13 = .ok (.iconst 1, 1) := by decide +kernel
theorem dL_append_14 : decode cL_append 14 = .ok (.ireturn, 1) := by decide +kernel
theorem dL_append_15 : decode cL_append 15 = .ok (.astore_n 3, 1) := by decide +kernel
theorem dL_append_16 : decode cL_append 16 = .ok (.iconst 2, 1) := by decide +kernel
theorem dL_append_17 : decode cL_append 17 = .ok (.ireturn, 1) := by decide +kernel
theorem dL_append_18 : decode cL_append 18 = .ok (.iconst 0, 1) := by decide +kernel
theorem dL_append_19 : decode cL_append 19 = .ok (.ireturn, 1) := by decide +kernel
theorem dL_goBack_0 : decode cL_goBack 0 = .ok (.aload_n 1, 1) := by decide +kernel
theorem dL_goBack_1 : decode cL_goBack 1 = .ok (.iconst 0, 1) := by decide +kernel
theorem dL_goBack_2 : decode cL_goBack 2 = .ok (.aload_n 0, 1) := by decide +kernel
theorem dL_goBack_3 : decode cL_goBack 3 = .ok (.invokevirtual 36, 3) := by decide +kernel
theorem dL_goBack_6 : decode cL_goBack 6 = .ok (.i2l, 1) := by decide +kernel
theorem dL_goBack_7 : decode cL_goBack 7 = .ok (.lastore, 1) := by decide +kernel
theorem dL_goBack_8 : decode cL_goBack 8 = .ok (.goto 6, 3) := by decide +kernel
theorem dL_goBack_11 : decode cL_goBack 11 = .ok (.astore_n 2, 1) := by decide +kernel
theorem dL_goBack_12 : decode cL_goBack 12 = .ok (.iconst 1, 1) := by decide +kernel
theorem dL_goBack_13 : decode cL_goBack 13 = .ok (.ireturn, 1) := by decide +kernel
theorem dL_goBack_14 : decode cL_goBack 14 = .ok (.iconst 0, 1) := by decide +kernel
theorem dL_goBack_15 : decode cL_goBack 15 = .ok (.ireturn, 1) := by decide +kernel
theorem dL_undo_0 : decode cL_undo 0 = .ok (.aload_n 1, 1) := by decide +kernel
theorem dL_undo_1 : decode cL_undo 1 = .ok (.iconst 0, 1) := by decide +kernel
theorem dL_undo_2 : decode cL_undo 2 = .ok (.aload_n 0, 1) := by decide +kernel
theorem dL_undo_3 : decode cL_undo 3 = .ok (.invokevirtual 39, 3) := by decide +kernel
theorem dL_undo_6 : decode cL_undo 6 = .ok (.i2l, 1) := by decide +kernel
theorem dL_undo_7 : decode cL_undo 7 = .ok (.lastore, 1) := by decide +kernel
theorem dL_undo_8 : decode cL_undo 8 = .ok (.goto 6, 3) := by decide +kernel
theorem dL_undo_11 : decode cL_undo 11 = .ok (.astore_n 2, 1) := by decide +kernel
theorem dL_undo_12 : decode cL_undo 12 = .ok (.iconst 1, 1) := by decide +kernel
theorem dL_undo_13 : decode cL_undo 13 = .ok (.ireturn, 1) := by decide +kernel
theorem dL_undo_14 : decode cL_undo 14 = .ok (.iconst 0, 1) := by decide +kernel
theorem dL_undo_15 : decode cL_undo 15 = .ok (.ireturn, 1) := by decide +kernel
theorem dL_at_0 : decode cL_at 0 = .ok (.aload_n 3, 1) := by decide +kernel
theorem dL_at_1 : decode cL_at 1 = .ok (.iconst 0, 1) := by decide +kernel
theorem dL_at_2 : decode cL_at 2 = .ok (.aload_n 0, 1) := by decide +kernel
theorem dL_at_3 : decode cL_at 3 = .ok (.iload_n 1, 1) := by decide +kernel
theorem dL_at_4 : decode cL_at 4 = .ok (.iload_n 2, 1) := by decide +kernel
theorem dL_at_5 : decode cL_at 5 = .ok (.invokevirtual 42, 3) := by decide +kernel
theorem dL_at_8 : decode cL_at 8 = .ok (.i2l, 1) := by decide +kernel
theorem dL_at_9 : decode cL_at 9 = .ok (.lastore, 1) := by decide +kernel
theorem dL_at_10 : decode cL_at 10 = .ok (.goto 11, 3) := by decide +kernel
theorem dL_at_13 : decode cL_at 13 = .ok (.astore 4, 2) := by decide +kernel
theorem dL_at_15 : decode cL_at 15 = .ok (.iconst 1, 1) := by decide +kernel
theorem dL_at_16 : decode cL_at 16 = .ok (.ireturn, 1) := by decide +kernel
theorem dL_at_17 : decode cL_at 17 = .ok (.astore 4, 2) := by decide +kernel
theorem dL_at_19 : decode cL_at 19 = .ok (.iconst 2, 1) := by decide +kernel
theorem dL_at_20 : decode cL_at 20 = .ok (.ireturn, 1) := by decide +kernel
theorem dL_at_21 : decode cL_at 21 = .ok (.iconst 0, 1) := by decide +kernel
theorem dL_at_22 : decode cL_at 22 = .ok (.ireturn, 1) := by decide +kernel
theorem dL_key_0 : decode cL_key 0 = .ok (.aload_n 3, 1) := by decide +kernel
theorem dL_key_1 : decode cL_key 1 = .ok (.iconst 0, 1) := by decide +kernel
theorem dL_key_2 : decode cL_key 2 = .ok (.aload_n 0, 1) := by decide +kernel
theorem dL_key_3 : decode cL_key 3 = .ok (.iload_n 1, 1) := by decide +kernel
theorem dL_key_4 : decode cL_key 4 = .ok (.iload_n 2, 1) := by decide +kernel
theorem dL_key_5 : decode cL_key 5 = .ok (.invokevirtual 46, 3) := by decide +kernel
theorem dL_key_8 : decode cL_key 8 = .ok (.i2l, 1) := by decide +kernel
theorem dL_key_9 : decode cL_key 9 = .ok (.lastore, 1) := by decide +kernel
theorem dL_key_10 : decode cL_key 10 = .ok (.goto 11, 3) := by decide +kernel
theorem dL_key_13 : decode cL_key 13 = .ok (.astore 4, 2) := by decide +kernel
theorem dL_key_15 : decode cL_key 15 = .ok (.iconst 1, 1) := by decide +kernel
theorem dL_key_16 : decode cL_key 16 = .ok (.ireturn, 1) := by decide +kernel
theorem dL_key_17 : decode cL_key 17 = .ok (.astore 4, 2) := by decide +kernel
theorem dL_key_19 : decode cL_key 19 = .ok (.iconst 2, 1) := by decide +kernel
theorem dL_key_20 : decode cL_key 20 = .ok (.ireturn, 1) := by decide +kernel
theorem dL_key_21 : decode cL_key 21 = .ok (.iconst 0, 1) := by decide +kernel
theorem dL_key_22 : decode cL_key 22 = .ok (.ireturn, 1) := by decide +kernel
theorem dL_pair_0 : decode cL_pair 0 = .ok (.aload 4, 2) := by decide +kernel
theorem dL_pair_2 : decode cL_pair 2 = .ok (.iconst 0, 1) := by decide +kernel
theorem dL_pair_3 : decode cL_pair 3 = .ok (.aload_n 0, 1) := by decide +kernel
theorem dL_pair_4 : decode cL_pair 4 = .ok (.iload_n 1, 1) := by decide +kernel
theorem dL_pair_5 : decode cL_pair 5 = .ok (.iload_n 2, 1) := by decide +kernel
theorem dL_pair_6 : decode cL_pair 6 = .ok (.iload_n 3, 1) := by decide +kernel
theorem dL_pair_7 : decode cL_pair 7 = .ok (.invokevirtual 49, 3) := by decide +kernel
theorem dL_pair_10 : decode cL_pair 10 = .ok (.i2l, 1) := by decide +kernel
theorem dL_pair_11 : decode cL_pair 11 = .ok (.lastore, 1) := by decide +kernel
theorem dL_pair_12 : decode cL_pair 12 = .ok (.goto 11, 3) := by decide +kernel
theorem dL_pair_15 : decode cL_pair 15 = .ok (.astore 5, 2) := by decide +kernel
theorem dL_pair_17 : decode cL_pair 17 = .ok (.iconst 1, 1) := by decide +kernel
theorem dL_pair_18 : decode cL_pair 18 = .ok (.ireturn, 1) := by decide +kernel
theorem dL_pair_19 : decode cL_pair 19 = .ok (.astore 5, 2) := by decide +kernel
theorem dL_pair_21 : decode cL_pair 21 = .ok (.iconst 2, 1) := by decide +kernel
theorem dL_pair_22 : decode cL_pair 22 = .ok (.ireturn, 1) := by decide +kernel
theorem dL_pair_23 : decode cL_pair 23 = .ok (.iconst 0, 1) := by decide +kernel
theorem dL_pair_24 : decode cL_pair 24 = .ok (.ireturn, 1) := by decide +kernel
theorem dL_ofWord_0 : decode cL_ofWord 0 = .ok (.aload_n 2, 1) := by decide +kernel
theorem dL_ofWord_1 : decode cL_ofWord 1 = .ok (.iconst 0, 1) := by decide +kernel
theorem dL_ofWord_2 : decode cL_ofWord 2 = .ok (.aload_n 0, 1) := by decide +kernel
theorem dL_ofWord_3 : decode cL_ofWord 3 = .ok (.iload_n 1, 1) := by decide +kernel
theorem dL_ofWord_4 : decode cL_ofWord 4 = .ok (.invokevirtual 52, 3) := by decide +kernel
theorem dL_ofWord_7 : decode cL_ofWord 7 = .ok (.i2l, 1) := by decide +kernel
theorem dL_ofWord_8 : decode cL_ofWord 8 = .ok (.lastore, 1) := by decide +kernel
theorem dL_ofWord_9 : decode cL_ofWord 9 = .ok (.goto 6, 3) := by decide +kernel
theorem dL_ofWord_12 : decode cL_ofWord 12 = .ok (.astore_n 3, 1) := by decide +kernel
theorem dL_ofWord_13 : decode cL_ofWord 13 = .ok (.iconst 1, 1) := by decide +kernel
theorem dL_ofWord_14 : decode cL_ofWord 14 = .ok (.ireturn, 1) := by decide +kernel
theorem dL_ofWord_15 : decode cL_ofWord 15 = .ok (.iconst 0, 1) := by decide +kernel
theorem dL_ofWord_16 : decode cL_ofWord 16 = .ok (.ireturn, 1) := by decide +kernel
theorem dL_count_0 : decode cL_count 0 = .ok (.aload_n 2, 1) := by decide +kernel
theorem dL_count_1 : decode cL_count 1 = .ok (.iconst 0, 1) := by decide +kernel
theorem dL_count_2 : decode cL_count 2 = .ok (.aload_n 0, 1) := by decide +kernel
theorem dL_count_3 : decode cL_count 3 = .ok (.iload_n 1, 1) := by decide +kernel
theorem dL_count_4 : decode cL_count 4 = .ok (.invokevirtual 55, 3) := by decide +kernel
theorem dL_count_7 : decode cL_count 7 = .ok (.i2l, 1) := by decide +kernel
theorem dL_count_8 : decode cL_count 8 = .ok (.lastore, 1) := by decide +kernel
theorem dL_count_9 : decode cL_count 9 = .ok (.goto 6, 3) := by decide +kernel
theorem dL_count_12 : decode cL_count 12 = .ok (.astore_n 3, 1) := by decide +kernel
theorem dL_count_13 : decode cL_count 13 = .ok (.iconst 1, 1) := by decide +kernel
theorem dL_count_14 : decode cL_count 14 = .ok (.ireturn, 1) := by decide +kernel
theorem dL_count_15 : decode cL_count 15 = .ok (.iconst 0, 1) := by decide +kernel
theorem dL_count_16 : decode cL_count 16 = .ok (.ireturn, 1) := by decide +kernel
theorem dL_openIn_0 : decode cL_openIn 0 = .ok (.aload_n 2, 1) := by decide +kernel
theorem dL_openIn_1 : decode cL_openIn 1 = .ok (.iconst 0, 1) := by decide +kernel
theorem dL_openIn_2 : decode cL_openIn 2 = .ok (.aload_n 0, 1) := by decide +kernel
theorem dL_openIn_3 : decode cL_openIn 3 = .ok (.iload_n 1, 1) := by decide +kernel
theorem dL_openIn_4 : decode cL_openIn 4 = .ok (.invokevirtual 58, 3) := by decide +kernel
theorem dL_openIn_7 : decode cL_openIn 7 = .ok (.i2l, 1) := by decide +kernel
theorem dL_openIn_8 : decode cL_openIn 8 = .ok (.lastore, 1) := by decide +kernel
theorem dL_openIn_9 : decode cL_openIn 9 = .ok (.goto 6, 3) := by decide +kernel
theorem dL_openIn_12 : decode cL_openIn 12 = .ok (.astore_n 3, 1) := by decide +kernel
theorem dL_openIn_13 : decode cL_openIn 13 = .ok (.iconst 1, 1) := by decide +kernel
theorem dL_openIn_14 : decode cL_openIn 14 = .ok (.ireturn, 1) := by decide +kernel
theorem dL_openIn_15 : decode cL_openIn 15 = .ok (.iconst 0, 1) := by decide +kernel
theorem dL_openIn_16 : decode cL_openIn 16 = .ok (.ireturn, 1) := by decide +kernel
theorem dL_ifTurned_0 : decode cL_ifTurned 0 = .ok (.aload_n 3, 1) := by decide +kernel
theorem dL_ifTurned_1 : decode cL_ifTurned 1 = .ok (.iconst 0, 1) := by decide +kernel
theorem dL_ifTurned_2 : decode cL_ifTurned 2 = .ok (.aload_n 0, 1) := by decide +kernel
theorem dL_ifTurned_3 : decode cL_ifTurned 3 = .ok (.iload_n 1, 1) := by decide +kernel
theorem dL_ifTurned_4 : decode cL_ifTurned 4 = .ok (.iload_n 2, 1) := by decide +kernel
theorem dL_ifTurned_5 : decode cL_ifTurned 5 = .ok (.invokevirtual 61, 3) := by decide +kernel
theorem dL_ifTurned_8 : decode cL_ifTurned 8 = .ok (.i2l, 1) := by decide +kernel
theorem dL_ifTurned_9 : decode cL_ifTurned 9 = .ok (.lastore, 1) := by decide +kernel
theorem dL_ifTurned_10 : decode cL_ifTurned 10 = .ok (.goto 11, 3) := by decide +kernel
theorem dL_ifTurned_13 : decode cL_ifTurned 13 = .ok (.astore 4, 2) := by decide +kernel
theorem dL_ifTurned_15 : decode cL_ifTurned 15 = .ok (.iconst 1, 1) := by decide +kernel
theorem dL_ifTurned_16 : decode cL_ifTurned 16 = .ok (.ireturn, 1) := by decide +kernel
theorem dL_ifTurned_17 : decode cL_ifTurned 17 = .ok (.astore 4, 2) := by decide +kernel
theorem dL_ifTurned_19 : decode cL_ifTurned 19 = .ok (.iconst 2, 1) := by decide +kernel
theorem dL_ifTurned_20 : decode cL_ifTurned 20 = .ok (.ireturn, 1) := by decide +kernel
theorem dL_ifTurned_21 : decode cL_ifTurned 21 = .ok (.iconst 0, 1) := by decide +kernel
theorem dL_ifTurned_22 : decode cL_ifTurned 22 = .ok (.ireturn, 1) := by decide +kernel
theorem dL_law_0 : decode cL_law 0 = .ok (.new 8, 3) := by decide +kernel
theorem dL_law_3 : decode cL_law 3 = .ok (.dup, 1) := by decide +kernel
theorem dL_law_4 : decode cL_law 4 = .ok (.invokespecial 64, 3) := by decide +kernel
theorem dL_law_7 : decode cL_law 7 = .ok (.astore_n 1, 1) := by decide +kernel
theorem dL_law_8 : decode cL_law 8 = .ok (.new 65, 3) := by decide +kernel
theorem dL_law_11 : decode cL_law 11 = .ok (.dup, 1) := by decide +kernel
theorem dL_law_12 : decode cL_law 12 = .ok (.invokespecial 67, 3) := by decide +kernel
theorem dL_law_15 : decode cL_law 15 = .ok (.astore_n 2, 1) := by decide +kernel
theorem dL_law_16 : decode cL_law 16 = .ok (.iconst 1, 1) := by decide +kernel
theorem dL_law_17 : decode cL_law 17 = .ok (.newarray .long, 2) := by decide +kernel
theorem dL_law_19 : decode cL_law 19 = .ok (.astore_n 3, 1) := by decide +kernel
theorem dL_law_20 : decode cL_law 20 = .ok (.iconst 0, 1) := by decide +kernel
theorem dL_law_21 : decode cL_law 21 = .ok (.istore 4, 2) := by decide +kernel
theorem dL_law_23 : decode cL_law 23 = .ok (.iload 4, 2) := by decide +kernel
theorem dL_law_25 : decode cL_law 25 = .ok (.aload_n 0, 1) := by decide +kernel
theorem dL_law_26 : decode cL_law 26 = .ok (.arraylength, 1) := by decide +kernel
theorem dL_law_27 : decode cL_law 27 = .ok (.iconst 4, 1) := by decide +kernel
theorem dL_law_28 : decode cL_law 28 = .ok (.isub, 1) := by decide +kernel
theorem dL_law_29 : decode cL_law 29 = .ok (.if_icmp .gt 1189, 3) := by decide +kernel
theorem dL_law_32 : decode cL_law 32 = .ok (.aload_n 0, 1) := by decide +kernel
theorem dL_law_33 : decode cL_law 33 = .ok (.iload 4, 2) := by decide +kernel
theorem dL_law_35 : decode cL_law 35 = .ok (.iaload, 1) := by decide +kernel
theorem dL_law_36 : decode cL_law 36 = .ok (.bipush 31, 2) := by decide +kernel
theorem dL_law_38 : decode cL_law 38 = .ok (.iand, 1) := by decide +kernel
theorem dL_law_39 : decode cL_law 39 = .ok (.tableswitch 1173 0 23 #[109, 165, 221, 265, 278, 358, 414, 427, 483, 496, 509, 522, 566, 610, 678, 746, 826, 882, 938, 994, 1062, 1075, 1116, 1159], 109) := by decide +kernel
theorem dL_law_148 : decode cL_law 148 = .ok (.aload_n 1, 1) := by decide +kernel
theorem dL_law_149 : decode cL_law 149 = .ok (.aload_n 0, 1) := by decide +kernel
theorem dL_law_150 : decode cL_law 150 = .ok (.iload 4, 2) := by decide +kernel
theorem dL_law_152 : decode cL_law 152 = .ok (.iconst 1, 1) := by decide +kernel
theorem dL_law_153 : decode cL_law 153 = .ok (.iadd, 1) := by decide +kernel
theorem dL_law_154 : decode cL_law 154 = .ok (.iaload, 1) := by decide +kernel
theorem dL_law_155 : decode cL_law 155 = .ok (.aload_n 3, 1) := by decide +kernel
theorem dL_law_156 : decode cL_law 156 = .ok (.invokestatic 68, 3) := by decide +kernel
theorem dL_law_159 : decode cL_law 159 = .ok (.istore 5, 2) := by decide +kernel
theorem dL_law_161 : decode cL_law 161 = .ok (.aload_n 2, 1) := by decide +kernel
theorem dL_law_162 : decode cL_law 162 = .ok (.aload_n 0, 1) := by decide +kernel
theorem dL_law_163 : decode cL_law 163 = .ok (.iload 4, 2) := by decide +kernel
theorem dL_law_165 : decode cL_law 165 = .ok (.iconst 1, 1) := by decide +kernel
theorem dL_law_166 : decode cL_law 166 = .ok (.iadd, 1) := by decide +kernel
theorem dL_law_167 : decode cL_law 167 = .ok (.iaload, 1) := by decide +kernel
theorem dL_law_168 : decode cL_law 168 = .ok (.invokevirtual 73, 3) := by decide +kernel
theorem dL_law_171 : decode cL_law 171 = .ok (.istore 6, 2) := by decide +kernel
theorem dL_law_173 : decode cL_law 173 = .ok (.aload_n 2, 1) := by decide +kernel
theorem dL_law_174 : decode cL_law 174 = .ok (.invokevirtual 74, 3) := by decide +kernel
theorem dL_law_177 : decode cL_law 177 = .ok (.iload 5, 2) := by decide +kernel
theorem dL_law_179 : decode cL_law 179 = .ok (.if_icmp .eq 5, 3) := by decide +kernel
theorem dL_law_182 : decode cL_law 182 = .ok (.iconst 0, 1) := by decide +kernel
theorem dL_law_183 : decode cL_law 183 = .ok (.ireturn, 1) := by decide +kernel
theorem dL_law_184 : decode cL_law 184 = .ok (.iload 5, 2) := by decide +kernel
theorem dL_law_186 : decode cL_law 186 = .ok (.ifCond .ne 15, 3) := by decide +kernel
theorem dL_law_189 : decode cL_law 189 = .ok (.aload_n 3, 1) := by decide +kernel
theorem dL_law_190 : decode cL_law 190 = .ok (.iconst 0, 1) := by decide +kernel
theorem dL_law_191 : decode cL_law 191 = .ok (.laload, 1) := by decide +kernel
theorem dL_law_192 : decode cL_law 192 = .ok (.iload 6, 2) := by decide +kernel
theorem dL_law_194 : decode cL_law 194 = .ok (.i2l, 1) := by decide +kernel
theorem dL_law_195 : decode cL_law 195 = .ok (.lcmp, 1) := by decide +kernel
theorem dL_law_196 : decode cL_law 196 = .ok (.ifCond .eq 5, 3) := by decide +kernel
theorem dL_law_199 : decode cL_law 199 = .ok (.iconst 0, 1) := by decide +kernel
theorem dL_law_200 : decode cL_law 200 = .ok (.ireturn, 1) := by decide +kernel
theorem dL_law_201 : decode cL_law 201 = .ok (.goto 1011, 3) := by decide +kernel
theorem dL_law_204 : decode cL_law 204 = .ok (.aload_n 1, 1) := by decide +kernel
theorem dL_law_205 : decode cL_law 205 = .ok (.aload_n 0, 1) := by decide +kernel
theorem dL_law_206 : decode cL_law 206 = .ok (.iload 4, 2) := by decide +kernel
theorem dL_law_208 : decode cL_law 208 = .ok (.iconst 1, 1) := by decide +kernel
theorem dL_law_209 : decode cL_law 209 = .ok (.iadd, 1) := by decide +kernel
theorem dL_law_210 : decode cL_law 210 = .ok (.iaload, 1) := by decide +kernel
theorem dL_law_211 : decode cL_law 211 = .ok (.aload_n 3, 1) := by decide +kernel
theorem dL_law_212 : decode cL_law 212 = .ok (.invokestatic 77, 3) := by decide +kernel
theorem dL_law_215 : decode cL_law 215 = .ok (.istore 5, 2) := by decide +kernel
theorem dL_law_217 : decode cL_law 217 = .ok (.aload_n 2, 1) := by decide +kernel
theorem dL_law_218 : decode cL_law 218 = .ok (.aload_n 0, 1) := by decide +kernel
theorem dL_law_219 : decode cL_law 219 = .ok (.iload 4, 2) := by decide +kernel
theorem dL_law_221 : decode cL_law 221 = .ok (.iconst 1, 1) := by decide +kernel
theorem dL_law_222 : decode cL_law 222 = .ok (.iadd, 1) := by decide +kernel
theorem dL_law_223 : decode cL_law 223 = .ok (.iaload, 1) := by decide +kernel
theorem dL_law_224 : decode cL_law 224 = .ok (.invokevirtual 79, 3) := by decide +kernel
theorem dL_law_227 : decode cL_law 227 = .ok (.istore 6, 2) := by decide +kernel
theorem dL_law_229 : decode cL_law 229 = .ok (.aload_n 2, 1) := by decide +kernel
theorem dL_law_230 : decode cL_law 230 = .ok (.invokevirtual 74, 3) := by decide +kernel
theorem dL_law_233 : decode cL_law 233 = .ok (.iload 5, 2) := by decide +kernel
theorem dL_law_235 : decode cL_law 235 = .ok (.if_icmp .eq 5, 3) := by decide +kernel
theorem dL_law_238 : decode cL_law 238 = .ok (.iconst 0, 1) := by decide +kernel
theorem dL_law_239 : decode cL_law 239 = .ok (.ireturn, 1) := by decide +kernel
theorem dL_law_240 : decode cL_law 240 = .ok (.iload 5, 2) := by decide +kernel
theorem dL_law_242 : decode cL_law 242 = .ok (.ifCond .ne 15, 3) := by decide +kernel
theorem dL_law_245 : decode cL_law 245 = .ok (.aload_n 3, 1) := by decide +kernel
theorem dL_law_246 : decode cL_law 246 = .ok (.iconst 0, 1) := by decide +kernel
theorem dL_law_247 : decode cL_law 247 = .ok (.laload, 1) := by decide +kernel
theorem dL_law_248 : decode cL_law 248 = .ok (.iload 6, 2) := by decide +kernel
theorem dL_law_250 : decode cL_law 250 = .ok (.i2l, 1) := by decide +kernel
theorem dL_law_251 : decode cL_law 251 = .ok (.lcmp, 1) := by decide +kernel
theorem dL_law_252 : decode cL_law 252 = .ok (.ifCond .eq 5, 3) := by decide +kernel
theorem dL_law_255 : decode cL_law 255 = .ok (.iconst 0, 1) := by decide +kernel
theorem dL_law_256 : decode cL_law 256 = .ok (.ireturn, 1) := by decide +kernel
theorem dL_law_257 : decode cL_law 257 = .ok (.goto 955, 3) := by decide +kernel
theorem dL_law_260 : decode cL_law 260 = .ok (.aload_n 1, 1) := by decide +kernel
theorem dL_law_261 : decode cL_law 261 = .ok (.aload_n 3, 1) := by decide +kernel
theorem dL_law_262 : decode cL_law 262 = .ok (.invokestatic 80, 3) := by decide +kernel
theorem dL_law_265 : decode cL_law 265 = .ok (.istore 5, 2) := by decide +kernel
theorem dL_law_267 : decode cL_law 267 = .ok (.aload_n 2, 1) := by decide +kernel
theorem dL_law_268 : decode cL_law 268 = .ok (.invokevirtual 83, 3) := by decide +kernel
theorem dL_law_271 : decode cL_law 271 = .ok (.istore 6, 2) := by decide +kernel
theorem dL_law_273 : decode cL_law 273 = .ok (.aload_n 2, 1) := by decide +kernel
theorem dL_law_274 : decode cL_law 274 = .ok (.invokevirtual 74, 3) := by decide +kernel
theorem dL_law_277 : decode cL_law 277 = .ok (.iload 5, 2) := by decide +kernel
theorem dL_law_279 : decode cL_law 279 = .ok (.if_icmp .eq 5, 3) := by decide +kernel
theorem dL_law_282 : decode cL_law 282 = .ok (.iconst 0, 1) := by decide +kernel
theorem dL_law_283 : decode cL_law 283 = .ok (.ireturn, 1) := by decide +kernel
theorem dL_law_284 : decode cL_law 284 = .ok (.iload 5, 2) := by decide +kernel
theorem dL_law_286 : decode cL_law 286 = .ok (.ifCond .ne 15, 3) := by decide +kernel
theorem dL_law_289 : decode cL_law 289 = .ok (.aload_n 3, 1) := by decide +kernel
theorem dL_law_290 : decode cL_law 290 = .ok (.iconst 0, 1) := by decide +kernel
theorem dL_law_291 : decode cL_law 291 = .ok (.laload, 1) := by decide +kernel
theorem dL_law_292 : decode cL_law 292 = .ok (.iload 6, 2) := by decide +kernel
theorem dL_law_294 : decode cL_law 294 = .ok (.i2l, 1) := by decide +kernel
theorem dL_law_295 : decode cL_law 295 = .ok (.lcmp, 1) := by decide +kernel
theorem dL_law_296 : decode cL_law 296 = .ok (.ifCond .eq 5, 3) := by decide +kernel
theorem dL_law_299 : decode cL_law 299 = .ok (.iconst 0, 1) := by decide +kernel
theorem dL_law_300 : decode cL_law 300 = .ok (.ireturn, 1) := by decide +kernel
theorem dL_law_301 : decode cL_law 301 = .ok (.goto 911, 3) := by decide +kernel
theorem dL_law_304 : decode cL_law 304 = .ok (.aload_n 1, 1) := by decide +kernel
theorem dL_law_305 : decode cL_law 305 = .ok (.invokevirtual 84, 3) := by decide +kernel
theorem dL_law_308 : decode cL_law 308 = .ok (.aload_n 2, 1) := by decide +kernel
theorem dL_law_309 : decode cL_law 309 = .ok (.invokevirtual 87, 3) := by decide +kernel
theorem dL_law_312 : decode cL_law 312 = .ok (.if_icmp .eq 900, 3) := by decide +kernel
theorem dL_law_315 : decode cL_law 315 = .ok (.iconst 0, 1) := by decide +kernel
theorem dL_law_316 : decode cL_law 316 = .ok (.ireturn, 1) := by decide +kernel
theorem dL_law_317 : decode cL_law 317 = .ok (.aload_n 1, 1) := by decide +kernel
theorem dL_law_318 : decode cL_law 318 = .ok (.aload_n 0, 1) := by decide +kernel
theorem dL_law_319 : decode cL_law 319 = .ok (.iload 4, 2) := by decide +kernel
theorem dL_law_321 : decode cL_law 321 = .ok (.iconst 1, 1) := by decide +kernel
theorem dL_law_322 : decode cL_law 322 = .ok (.iadd, 1) := by decide +kernel
theorem dL_law_323 : decode cL_law 323 = .ok (.iaload, 1) := by decide +kernel
theorem dL_law_324 : decode cL_law 324 = .ok (.aload_n 0, 1) := by decide +kernel
theorem dL_law_325 : decode cL_law 325 = .ok (.iload 4, 2) := by decide +kernel
theorem dL_law_327 : decode cL_law 327 = .ok (.iconst 2, 1) := by decide +kernel
theorem dL_law_328 : decode cL_law 328 = .ok (.iadd, 1) := by decide +kernel
theorem dL_law_329 : decode cL_law 329 = .ok (.iaload, 1) := by decide +kernel
theorem dL_law_330 : decode cL_law 330 = .ok (.aload_n 0, 1) := by decide +kernel
theorem dL_law_331 : decode cL_law 331 = .ok (.iload 4, 2) := by decide +kernel
theorem dL_law_333 : decode cL_law 333 = .ok (.iconst 3, 1) := by decide +kernel
theorem dL_law_334 : decode cL_law 334 = .ok (.iadd, 1) := by decide +kernel
theorem dL_law_335 : decode cL_law 335 = .ok (.iaload, 1) := by decide +kernel
theorem dL_law_336 : decode cL_law 336 = .ok (.aload_n 3, 1) := by decide +kernel
theorem dL_law_337 : decode cL_law 337 = .ok (.invokestatic 88, 3) := by decide +kernel
theorem dL_law_340 : decode cL_law 340 = .ok (.istore 5, 2) := by decide +kernel
theorem dL_law_342 : decode cL_law 342 = .ok (.aload_n 2, 1) := by decide +kernel
theorem dL_law_343 : decode cL_law 343 = .ok (.aload_n 0, 1) := by decide +kernel
theorem dL_law_344 : decode cL_law 344 = .ok (.iload 4, 2) := by decide +kernel
theorem dL_law_346 : decode cL_law 346 = .ok (.iconst 1, 1) := by decide +kernel
theorem dL_law_347 : decode cL_law 347 = .ok (.iadd, 1) := by decide +kernel
theorem dL_law_348 : decode cL_law 348 = .ok (.iaload, 1) := by decide +kernel
theorem dL_law_349 : decode cL_law 349 = .ok (.aload_n 0, 1) := by decide +kernel
theorem dL_law_350 : decode cL_law 350 = .ok (.iload 4, 2) := by decide +kernel
theorem dL_law_352 : decode cL_law 352 = .ok (.iconst 2, 1) := by decide +kernel
theorem dL_law_353 : decode cL_law 353 = .ok (.iadd, 1) := by decide +kernel
theorem dL_law_354 : decode cL_law 354 = .ok (.iaload, 1) := by decide +kernel
theorem dL_law_355 : decode cL_law 355 = .ok (.aload_n 0, 1) := by decide +kernel
theorem dL_law_356 : decode cL_law 356 = .ok (.iload 4, 2) := by decide +kernel
theorem dL_law_358 : decode cL_law 358 = .ok (.iconst 3, 1) := by decide +kernel
theorem dL_law_359 : decode cL_law 359 = .ok (.iadd, 1) := by decide +kernel
theorem dL_law_360 : decode cL_law 360 = .ok (.iaload, 1) := by decide +kernel
theorem dL_law_361 : decode cL_law 361 = .ok (.invokevirtual 91, 3) := by decide +kernel
theorem dL_law_364 : decode cL_law 364 = .ok (.istore 6, 2) := by decide +kernel
theorem dL_law_366 : decode cL_law 366 = .ok (.aload_n 2, 1) := by decide +kernel
theorem dL_law_367 : decode cL_law 367 = .ok (.invokevirtual 74, 3) := by decide +kernel
theorem dL_law_370 : decode cL_law 370 = .ok (.iload 5, 2) := by decide +kernel
theorem dL_law_372 : decode cL_law 372 = .ok (.if_icmp .eq 5, 3) := by decide +kernel
theorem dL_law_375 : decode cL_law 375 = .ok (.iconst 0, 1) := by decide +kernel
theorem dL_law_376 : decode cL_law 376 = .ok (.ireturn, 1) := by decide +kernel
theorem dL_law_377 : decode cL_law 377 = .ok (.iload 5, 2) := by decide +kernel
theorem dL_law_379 : decode cL_law 379 = .ok (.ifCond .ne 15, 3) := by decide +kernel
theorem dL_law_382 : decode cL_law 382 = .ok (.aload_n 3, 1) := by decide +kernel
theorem dL_law_383 : decode cL_law 383 = .ok (.iconst 0, 1) := by decide +kernel
theorem dL_law_384 : decode cL_law 384 = .ok (.laload, 1) := by decide +kernel
theorem dL_law_385 : decode cL_law 385 = .ok (.iload 6, 2) := by decide +kernel
theorem dL_law_387 : decode cL_law 387 = .ok (.i2l, 1) := by decide +kernel
theorem dL_law_388 : decode cL_law 388 = .ok (.lcmp, 1) := by decide +kernel
theorem dL_law_389 : decode cL_law 389 = .ok (.ifCond .eq 5, 3) := by decide +kernel
theorem dL_law_392 : decode cL_law 392 = .ok (.iconst 0, 1) := by decide +kernel
theorem dL_law_393 : decode cL_law 393 = .ok (.ireturn, 1) := by decide +kernel
theorem dL_law_394 : decode cL_law 394 = .ok (.goto 818, 3) := by decide +kernel
theorem dL_law_397 : decode cL_law 397 = .ok (.aload_n 1, 1) := by decide +kernel
theorem dL_law_398 : decode cL_law 398 = .ok (.aload_n 0, 1) := by decide +kernel
theorem dL_law_399 : decode cL_law 399 = .ok (.iload 4, 2) := by decide +kernel
theorem dL_law_401 : decode cL_law 401 = .ok (.iconst 1, 1) := by decide +kernel
theorem dL_law_402 : decode cL_law 402 = .ok (.iadd, 1) := by decide +kernel
theorem dL_law_403 : decode cL_law 403 = .ok (.iaload, 1) := by decide +kernel
theorem dL_law_404 : decode cL_law 404 = .ok (.aload_n 3, 1) := by decide +kernel
theorem dL_law_405 : decode cL_law 405 = .ok (.invokestatic 92, 3) := by decide +kernel
theorem dL_law_408 : decode cL_law 408 = .ok (.istore 5, 2) := by decide +kernel
theorem dL_law_410 : decode cL_law 410 = .ok (.aload_n 2, 1) := by decide +kernel
theorem dL_law_411 : decode cL_law 411 = .ok (.aload_n 0, 1) := by decide +kernel
theorem dL_law_412 : decode cL_law 412 = .ok (.iload 4, 2) := by decide +kernel
theorem dL_law_414 : decode cL_law 414 = .ok (.iconst 1, 1) := by decide +kernel
theorem dL_law_415 : decode cL_law 415 = .ok (.iadd, 1) := by decide +kernel
theorem dL_law_416 : decode cL_law 416 = .ok (.iaload, 1) := by decide +kernel
theorem dL_law_417 : decode cL_law 417 = .ok (.invokevirtual 94, 3) := by decide +kernel
theorem dL_law_420 : decode cL_law 420 = .ok (.istore 6, 2) := by decide +kernel
theorem dL_law_422 : decode cL_law 422 = .ok (.aload_n 2, 1) := by decide +kernel
theorem dL_law_423 : decode cL_law 423 = .ok (.invokevirtual 74, 3) := by decide +kernel
theorem dL_law_426 : decode cL_law 426 = .ok (.iload 5, 2) := by decide +kernel
theorem dL_law_428 : decode cL_law 428 = .ok (.if_icmp .eq 5, 3) := by decide +kernel
theorem dL_law_431 : decode cL_law 431 = .ok (.iconst 0, 1) := by decide +kernel
theorem dL_law_432 : decode cL_law 432 = .ok (.ireturn, 1) := by decide +kernel
theorem dL_law_433 : decode cL_law 433 = .ok (.iload 5, 2) := by decide +kernel
theorem dL_law_435 : decode cL_law 435 = .ok (.ifCond .ne 15, 3) := by decide +kernel
theorem dL_law_438 : decode cL_law 438 = .ok (.aload_n 3, 1) := by decide +kernel
theorem dL_law_439 : decode cL_law 439 = .ok (.iconst 0, 1) := by decide +kernel
theorem dL_law_440 : decode cL_law 440 = .ok (.laload, 1) := by decide +kernel
theorem dL_law_441 : decode cL_law 441 = .ok (.iload 6, 2) := by decide +kernel
theorem dL_law_443 : decode cL_law 443 = .ok (.i2l, 1) := by decide +kernel
theorem dL_law_444 : decode cL_law 444 = .ok (.lcmp, 1) := by decide +kernel
theorem dL_law_445 : decode cL_law 445 = .ok (.ifCond .eq 5, 3) := by decide +kernel
theorem dL_law_448 : decode cL_law 448 = .ok (.iconst 0, 1) := by decide +kernel
theorem dL_law_449 : decode cL_law 449 = .ok (.ireturn, 1) := by decide +kernel
theorem dL_law_450 : decode cL_law 450 = .ok (.goto 762, 3) := by decide +kernel
theorem dL_law_453 : decode cL_law 453 = .ok (.aload_n 1, 1) := by decide +kernel
theorem dL_law_454 : decode cL_law 454 = .ok (.invokevirtual 95, 3) := by decide +kernel
theorem dL_law_457 : decode cL_law 457 = .ok (.aload_n 2, 1) := by decide +kernel
theorem dL_law_458 : decode cL_law 458 = .ok (.invokevirtual 98, 3) := by decide +kernel
theorem dL_law_461 : decode cL_law 461 = .ok (.if_icmp .eq 751, 3) := by decide +kernel
theorem dL_law_464 : decode cL_law 464 = .ok (.iconst 0, 1) := by decide +kernel
theorem dL_law_465 : decode cL_law 465 = .ok (.ireturn, 1) := by decide +kernel
theorem dL_law_466 : decode cL_law 466 = .ok (.aload_n 1, 1) := by decide +kernel
theorem dL_law_467 : decode cL_law 467 = .ok (.aload_n 0, 1) := by decide +kernel
theorem dL_law_468 : decode cL_law 468 = .ok (.iload 4, 2) := by decide +kernel
theorem dL_law_470 : decode cL_law 470 = .ok (.iconst 1, 1) := by decide +kernel
theorem dL_law_471 : decode cL_law 471 = .ok (.iadd, 1) := by decide +kernel
theorem dL_law_472 : decode cL_law 472 = .ok (.iaload, 1) := by decide +kernel
theorem dL_law_473 : decode cL_law 473 = .ok (.aload_n 3, 1) := by decide +kernel
theorem dL_law_474 : decode cL_law 474 = .ok (.invokestatic 99, 3) := by decide +kernel
theorem dL_law_477 : decode cL_law 477 = .ok (.istore 5, 2) := by decide +kernel
theorem dL_law_479 : decode cL_law 479 = .ok (.aload_n 2, 1) := by decide +kernel
theorem dL_law_480 : decode cL_law 480 = .ok (.aload_n 0, 1) := by decide +kernel
theorem dL_law_481 : decode cL_law 481 = .ok (.iload 4, 2) := by decide +kernel
theorem dL_law_483 : decode cL_law 483 = .ok (.iconst 1, 1) := by decide +kernel
theorem dL_law_484 : decode cL_law 484 = .ok (.iadd, 1) := by decide +kernel
theorem dL_law_485 : decode cL_law 485 = .ok (.iaload, 1) := by decide +kernel
theorem dL_law_486 : decode cL_law 486 = .ok (.invokevirtual 101, 3) := by decide +kernel
theorem dL_law_489 : decode cL_law 489 = .ok (.istore 6, 2) := by decide +kernel
theorem dL_law_491 : decode cL_law 491 = .ok (.aload_n 2, 1) := by decide +kernel
theorem dL_law_492 : decode cL_law 492 = .ok (.invokevirtual 74, 3) := by decide +kernel
theorem dL_law_495 : decode cL_law 495 = .ok (.iload 5, 2) := by decide +kernel
theorem dL_law_497 : decode cL_law 497 = .ok (.if_icmp .eq 5, 3) := by decide +kernel
theorem dL_law_500 : decode cL_law 500 = .ok (.iconst 0, 1) := by decide +kernel
theorem dL_law_501 : decode cL_law 501 = .ok (.ireturn, 1) := by decide +kernel
theorem dL_law_502 : decode cL_law 502 = .ok (.iload 5, 2) := by decide +kernel
theorem dL_law_504 : decode cL_law 504 = .ok (.ifCond .ne 15, 3) := by decide +kernel
theorem dL_law_507 : decode cL_law 507 = .ok (.aload_n 3, 1) := by decide +kernel
theorem dL_law_508 : decode cL_law 508 = .ok (.iconst 0, 1) := by decide +kernel
theorem dL_law_509 : decode cL_law 509 = .ok (.laload, 1) := by decide +kernel
theorem dL_law_510 : decode cL_law 510 = .ok (.iload 6, 2) := by decide +kernel
theorem dL_law_512 : decode cL_law 512 = .ok (.i2l, 1) := by decide +kernel
theorem dL_law_513 : decode cL_law 513 = .ok (.lcmp, 1) := by decide +kernel
theorem dL_law_514 : decode cL_law 514 = .ok (.ifCond .eq 5, 3) := by decide +kernel
theorem dL_law_517 : decode cL_law 517 = .ok (.iconst 0, 1) := by decide +kernel
theorem dL_law_518 : decode cL_law 518 = .ok (.ireturn, 1) := by decide +kernel
theorem dL_law_519 : decode cL_law 519 = .ok (.goto 693, 3) := by decide +kernel
theorem dL_law_522 : decode cL_law 522 = .ok (.aload_n 1, 1) := by decide +kernel
theorem dL_law_523 : decode cL_law 523 = .ok (.invokevirtual 102, 3) := by decide +kernel
theorem dL_law_526 : decode cL_law 526 = .ok (.aload_n 2, 1) := by decide +kernel
theorem dL_law_527 : decode cL_law 527 = .ok (.invokevirtual 105, 3) := by decide +kernel
theorem dL_law_530 : decode cL_law 530 = .ok (.if_icmp .eq 682, 3) := by decide +kernel
theorem dL_law_533 : decode cL_law 533 = .ok (.iconst 0, 1) := by decide +kernel
theorem dL_law_534 : decode cL_law 534 = .ok (.ireturn, 1) := by decide +kernel
theorem dL_law_535 : decode cL_law 535 = .ok (.aload_n 1, 1) := by decide +kernel
theorem dL_law_536 : decode cL_law 536 = .ok (.invokevirtual 106, 3) := by decide +kernel
theorem dL_law_539 : decode cL_law 539 = .ok (.aload_n 2, 1) := by decide +kernel
theorem dL_law_540 : decode cL_law 540 = .ok (.invokevirtual 109, 3) := by decide +kernel
theorem dL_law_543 : decode cL_law 543 = .ok (.if_icmp .eq 669, 3) := by decide +kernel
theorem dL_law_546 : decode cL_law 546 = .ok (.iconst 0, 1) := by decide +kernel
theorem dL_law_547 : decode cL_law 547 = .ok (.ireturn, 1) := by decide +kernel
theorem dL_law_548 : decode cL_law 548 = .ok (.aload_n 1, 1) := by decide +kernel
theorem dL_law_549 : decode cL_law 549 = .ok (.invokevirtual 110, 3) := by decide +kernel
theorem dL_law_552 : decode cL_law 552 = .ok (.aload_n 2, 1) := by decide +kernel
theorem dL_law_553 : decode cL_law 553 = .ok (.invokevirtual 113, 3) := by decide +kernel
theorem dL_law_556 : decode cL_law 556 = .ok (.if_icmp .eq 656, 3) := by decide +kernel
theorem dL_law_559 : decode cL_law 559 = .ok (.iconst 0, 1) := by decide +kernel
theorem dL_law_560 : decode cL_law 560 = .ok (.ireturn, 1) := by decide +kernel
theorem dL_law_561 : decode cL_law 561 = .ok (.aload_n 1, 1) := by decide +kernel
theorem dL_law_562 : decode cL_law 562 = .ok (.aload_n 3, 1) := by decide +kernel
theorem dL_law_563 : decode cL_law 563 = .ok (.invokestatic 114, 3) := by decide +kernel
theorem dL_law_566 : decode cL_law 566 = .ok (.istore 5, 2) := by decide +kernel
theorem dL_law_568 : decode cL_law 568 = .ok (.aload_n 2, 1) := by decide +kernel
theorem dL_law_569 : decode cL_law 569 = .ok (.invokevirtual 116, 3) := by decide +kernel
theorem dL_law_572 : decode cL_law 572 = .ok (.istore 6, 2) := by decide +kernel
theorem dL_law_574 : decode cL_law 574 = .ok (.aload_n 2, 1) := by decide +kernel
theorem dL_law_575 : decode cL_law 575 = .ok (.invokevirtual 74, 3) := by decide +kernel
theorem dL_law_578 : decode cL_law 578 = .ok (.iload 5, 2) := by decide +kernel
theorem dL_law_580 : decode cL_law 580 = .ok (.if_icmp .eq 5, 3) := by decide +kernel
theorem dL_law_583 : decode cL_law 583 = .ok (.iconst 0, 1) := by decide +kernel
theorem dL_law_584 : decode cL_law 584 = .ok (.ireturn, 1) := by decide +kernel
theorem dL_law_585 : decode cL_law 585 = .ok (.iload 5, 2) := by decide +kernel
theorem dL_law_587 : decode cL_law 587 = .ok (.ifCond .ne 15, 3) := by decide +kernel
theorem dL_law_590 : decode cL_law 590 = .ok (.aload_n 3, 1) := by decide +kernel
theorem dL_law_591 : decode cL_law 591 = .ok (.iconst 0, 1) := by decide +kernel
theorem dL_law_592 : decode cL_law 592 = .ok (.laload, 1) := by decide +kernel
theorem dL_law_593 : decode cL_law 593 = .ok (.iload 6, 2) := by decide +kernel
theorem dL_law_595 : decode cL_law 595 = .ok (.i2l, 1) := by decide +kernel
theorem dL_law_596 : decode cL_law 596 = .ok (.lcmp, 1) := by decide +kernel
theorem dL_law_597 : decode cL_law 597 = .ok (.ifCond .eq 5, 3) := by decide +kernel
theorem dL_law_600 : decode cL_law 600 = .ok (.iconst 0, 1) := by decide +kernel
theorem dL_law_601 : decode cL_law 601 = .ok (.ireturn, 1) := by decide +kernel
theorem dL_law_602 : decode cL_law 602 = .ok (.goto 610, 3) := by decide +kernel
theorem dL_law_605 : decode cL_law 605 = .ok (.aload_n 1, 1) := by decide +kernel
theorem dL_law_606 : decode cL_law 606 = .ok (.aload_n 3, 1) := by decide +kernel
theorem dL_law_607 : decode cL_law 607 = .ok (.invokestatic 117, 3) := by decide +kernel
theorem dL_law_610 : decode cL_law 610 = .ok (.istore 5, 2) := by decide +kernel
theorem dL_law_612 : decode cL_law 612 = .ok (.aload_n 2, 1) := by decide +kernel
theorem dL_law_613 : decode cL_law 613 = .ok (.invokevirtual 119, 3) := by decide +kernel
theorem dL_law_616 : decode cL_law 616 = .ok (.istore 6, 2) := by decide +kernel
theorem dL_law_618 : decode cL_law 618 = .ok (.aload_n 2, 1) := by decide +kernel
theorem dL_law_619 : decode cL_law 619 = .ok (.invokevirtual 74, 3) := by decide +kernel
theorem dL_law_622 : decode cL_law 622 = .ok (.iload 5, 2) := by decide +kernel
theorem dL_law_624 : decode cL_law 624 = .ok (.if_icmp .eq 5, 3) := by decide +kernel
theorem dL_law_627 : decode cL_law 627 = .ok (.iconst 0, 1) := by decide +kernel
theorem dL_law_628 : decode cL_law 628 = .ok (.ireturn, 1) := by decide +kernel
theorem dL_law_629 : decode cL_law 629 = .ok (.iload 5, 2) := by decide +kernel
theorem dL_law_631 : decode cL_law 631 = .ok (.ifCond .ne 15, 3) := by decide +kernel
theorem dL_law_634 : decode cL_law 634 = .ok (.aload_n 3, 1) := by decide +kernel
theorem dL_law_635 : decode cL_law 635 = .ok (.iconst 0, 1) := by decide +kernel
theorem dL_law_636 : decode cL_law 636 = .ok (.laload, 1) := by decide +kernel
theorem dL_law_637 : decode cL_law 637 = .ok (.iload 6, 2) := by decide +kernel
theorem dL_law_639 : decode cL_law 639 = .ok (.i2l, 1) := by decide +kernel
theorem dL_law_640 : decode cL_law 640 = .ok (.lcmp, 1) := by decide +kernel
theorem dL_law_641 : decode cL_law 641 = .ok (.ifCond .eq 5, 3) := by decide +kernel
theorem dL_law_644 : decode cL_law 644 = .ok (.iconst 0, 1) := by decide +kernel
theorem dL_law_645 : decode cL_law 645 = .ok (.ireturn, 1) := by decide +kernel
theorem dL_law_646 : decode cL_law 646 = .ok (.goto 566, 3) := by decide +kernel
theorem dL_law_649 : decode cL_law 649 = .ok (.aload_n 1, 1) := by decide +kernel
theorem dL_law_650 : decode cL_law 650 = .ok (.aload_n 0, 1) := by decide +kernel
theorem dL_law_651 : decode cL_law 651 = .ok (.iload 4, 2) := by decide +kernel
theorem dL_law_653 : decode cL_law 653 = .ok (.iconst 1, 1) := by decide +kernel
theorem dL_law_654 : decode cL_law 654 = .ok (.iadd, 1) := by decide +kernel
theorem dL_law_655 : decode cL_law 655 = .ok (.iaload, 1) := by decide +kernel
theorem dL_law_656 : decode cL_law 656 = .ok (.aload_n 0, 1) := by decide +kernel
theorem dL_law_657 : decode cL_law 657 = .ok (.iload 4, 2) := by decide +kernel
theorem dL_law_659 : decode cL_law 659 = .ok (.iconst 2, 1) := by decide +kernel
theorem dL_law_660 : decode cL_law 660 = .ok (.iadd, 1) := by decide +kernel
theorem dL_law_661 : decode cL_law 661 = .ok (.iaload, 1) := by decide +kernel
theorem dL_law_662 : decode cL_law 662 = .ok (.aload_n 3, 1) := by decide +kernel
theorem dL_law_663 : decode cL_law 663 = .ok (.invokestatic 120, 3) := by decide +kernel
theorem dL_law_666 : decode cL_law 666 = .ok (.istore 5, 2) := by decide +kernel
theorem dL_law_668 : decode cL_law 668 = .ok (.aload_n 2, 1) := by decide +kernel
theorem dL_law_669 : decode cL_law 669 = .ok (.aload_n 0, 1) := by decide +kernel
theorem dL_law_670 : decode cL_law 670 = .ok (.iload 4, 2) := by decide +kernel
theorem dL_law_672 : decode cL_law 672 = .ok (.iconst 1, 1) := by decide +kernel
theorem dL_law_673 : decode cL_law 673 = .ok (.iadd, 1) := by decide +kernel
theorem dL_law_674 : decode cL_law 674 = .ok (.iaload, 1) := by decide +kernel
theorem dL_law_675 : decode cL_law 675 = .ok (.aload_n 0, 1) := by decide +kernel
theorem dL_law_676 : decode cL_law 676 = .ok (.iload 4, 2) := by decide +kernel
theorem dL_law_678 : decode cL_law 678 = .ok (.iconst 2, 1) := by decide +kernel
theorem dL_law_679 : decode cL_law 679 = .ok (.iadd, 1) := by decide +kernel
theorem dL_law_680 : decode cL_law 680 = .ok (.iaload, 1) := by decide +kernel
theorem dL_law_681 : decode cL_law 681 = .ok (.invokevirtual 123, 3) := by decide +kernel
theorem dL_law_684 : decode cL_law 684 = .ok (.istore 6, 2) := by decide +kernel
theorem dL_law_686 : decode cL_law 686 = .ok (.aload_n 2, 1) := by decide +kernel
theorem dL_law_687 : decode cL_law 687 = .ok (.invokevirtual 74, 3) := by decide +kernel
theorem dL_law_690 : decode cL_law 690 = .ok (.iload 5, 2) := by decide +kernel
theorem dL_law_692 : decode cL_law 692 = .ok (.if_icmp .eq 5, 3) := by decide +kernel
theorem dL_law_695 : decode cL_law 695 = .ok (.iconst 0, 1) := by decide +kernel
theorem dL_law_696 : decode cL_law 696 = .ok (.ireturn, 1) := by decide +kernel
theorem dL_law_697 : decode cL_law 697 = .ok (.iload 5, 2) := by decide +kernel
theorem dL_law_699 : decode cL_law 699 = .ok (.ifCond .ne 15, 3) := by decide +kernel
theorem dL_law_702 : decode cL_law 702 = .ok (.aload_n 3, 1) := by decide +kernel
theorem dL_law_703 : decode cL_law 703 = .ok (.iconst 0, 1) := by decide +kernel
theorem dL_law_704 : decode cL_law 704 = .ok (.laload, 1) := by decide +kernel
theorem dL_law_705 : decode cL_law 705 = .ok (.iload 6, 2) := by decide +kernel
theorem dL_law_707 : decode cL_law 707 = .ok (.i2l, 1) := by decide +kernel
theorem dL_law_708 : decode cL_law 708 = .ok (.lcmp, 1) := by decide +kernel
theorem dL_law_709 : decode cL_law 709 = .ok (.ifCond .eq 5, 3) := by decide +kernel
theorem dL_law_712 : decode cL_law 712 = .ok (.iconst 0, 1) := by decide +kernel
theorem dL_law_713 : decode cL_law 713 = .ok (.ireturn, 1) := by decide +kernel
theorem dL_law_714 : decode cL_law 714 = .ok (.goto 498, 3) := by decide +kernel
theorem dL_law_717 : decode cL_law 717 = .ok (.aload_n 1, 1) := by decide +kernel
theorem dL_law_718 : decode cL_law 718 = .ok (.aload_n 0, 1) := by decide +kernel
theorem dL_law_719 : decode cL_law 719 = .ok (.iload 4, 2) := by decide +kernel
theorem dL_law_721 : decode cL_law 721 = .ok (.iconst 1, 1) := by decide +kernel
theorem dL_law_722 : decode cL_law 722 = .ok (.iadd, 1) := by decide +kernel
theorem dL_law_723 : decode cL_law 723 = .ok (.iaload, 1) := by decide +kernel
theorem dL_law_724 : decode cL_law 724 = .ok (.aload_n 0, 1) := by decide +kernel
theorem dL_law_725 : decode cL_law 725 = .ok (.iload 4, 2) := by decide +kernel
theorem dL_law_727 : decode cL_law 727 = .ok (.iconst 2, 1) := by decide +kernel
theorem dL_law_728 : decode cL_law 728 = .ok (.iadd, 1) := by decide +kernel
theorem dL_law_729 : decode cL_law 729 = .ok (.iaload, 1) := by decide +kernel
theorem dL_law_730 : decode cL_law 730 = .ok (.aload_n 3, 1) := by decide +kernel
theorem dL_law_731 : decode cL_law 731 = .ok (.invokestatic 124, 3) := by decide +kernel
theorem dL_law_734 : decode cL_law 734 = .ok (.istore 5, 2) := by decide +kernel
theorem dL_law_736 : decode cL_law 736 = .ok (.aload_n 2, 1) := by decide +kernel
theorem dL_law_737 : decode cL_law 737 = .ok (.aload_n 0, 1) := by decide +kernel
theorem dL_law_738 : decode cL_law 738 = .ok (.iload 4, 2) := by decide +kernel
theorem dL_law_740 : decode cL_law 740 = .ok (.iconst 1, 1) := by decide +kernel
theorem dL_law_741 : decode cL_law 741 = .ok (.iadd, 1) := by decide +kernel
theorem dL_law_742 : decode cL_law 742 = .ok (.iaload, 1) := by decide +kernel
theorem dL_law_743 : decode cL_law 743 = .ok (.aload_n 0, 1) := by decide +kernel
theorem dL_law_744 : decode cL_law 744 = .ok (.iload 4, 2) := by decide +kernel
theorem dL_law_746 : decode cL_law 746 = .ok (.iconst 2, 1) := by decide +kernel
theorem dL_law_747 : decode cL_law 747 = .ok (.iadd, 1) := by decide +kernel
theorem dL_law_748 : decode cL_law 748 = .ok (.iaload, 1) := by decide +kernel
theorem dL_law_749 : decode cL_law 749 = .ok (.invokevirtual 126, 3) := by decide +kernel
theorem dL_law_752 : decode cL_law 752 = .ok (.istore 6, 2) := by decide +kernel
theorem dL_law_754 : decode cL_law 754 = .ok (.aload_n 2, 1) := by decide +kernel
theorem dL_law_755 : decode cL_law 755 = .ok (.invokevirtual 74, 3) := by decide +kernel
theorem dL_law_758 : decode cL_law 758 = .ok (.iload 5, 2) := by decide +kernel
theorem dL_law_760 : decode cL_law 760 = .ok (.if_icmp .eq 5, 3) := by decide +kernel
theorem dL_law_763 : decode cL_law 763 = .ok (.iconst 0, 1) := by decide +kernel
theorem dL_law_764 : decode cL_law 764 = .ok (.ireturn, 1) := by decide +kernel
theorem dL_law_765 : decode cL_law 765 = .ok (.iload 5, 2) := by decide +kernel
theorem dL_law_767 : decode cL_law 767 = .ok (.ifCond .ne 15, 3) := by decide +kernel
theorem dL_law_770 : decode cL_law 770 = .ok (.aload_n 3, 1) := by decide +kernel
theorem dL_law_771 : decode cL_law 771 = .ok (.iconst 0, 1) := by decide +kernel
theorem dL_law_772 : decode cL_law 772 = .ok (.laload, 1) := by decide +kernel
theorem dL_law_773 : decode cL_law 773 = .ok (.iload 6, 2) := by decide +kernel
theorem dL_law_775 : decode cL_law 775 = .ok (.i2l, 1) := by decide +kernel
theorem dL_law_776 : decode cL_law 776 = .ok (.lcmp, 1) := by decide +kernel
theorem dL_law_777 : decode cL_law 777 = .ok (.ifCond .eq 5, 3) := by decide +kernel
theorem dL_law_780 : decode cL_law 780 = .ok (.iconst 0, 1) := by decide +kernel
theorem dL_law_781 : decode cL_law 781 = .ok (.ireturn, 1) := by decide +kernel
theorem dL_law_782 : decode cL_law 782 = .ok (.goto 430, 3) := by decide +kernel
theorem dL_law_785 : decode cL_law 785 = .ok (.aload_n 1, 1) := by decide +kernel
theorem dL_law_786 : decode cL_law 786 = .ok (.aload_n 0, 1) := by decide +kernel
theorem dL_law_787 : decode cL_law 787 = .ok (.iload 4, 2) := by decide +kernel
theorem dL_law_789 : decode cL_law 789 = .ok (.iconst 1, 1) := by decide +kernel
theorem dL_law_790 : decode cL_law 790 = .ok (.iadd, 1) := by decide +kernel
theorem dL_law_791 : decode cL_law 791 = .ok (.iaload, 1) := by decide +kernel
theorem dL_law_792 : decode cL_law 792 = .ok (.aload_n 0, 1) := by decide +kernel
theorem dL_law_793 : decode cL_law 793 = .ok (.iload 4, 2) := by decide +kernel
theorem dL_law_795 : decode cL_law 795 = .ok (.iconst 2, 1) := by decide +kernel
theorem dL_law_796 : decode cL_law 796 = .ok (.iadd, 1) := by decide +kernel
theorem dL_law_797 : decode cL_law 797 = .ok (.iaload, 1) := by decide +kernel
theorem dL_law_798 : decode cL_law 798 = .ok (.aload_n 0, 1) := by decide +kernel
theorem dL_law_799 : decode cL_law 799 = .ok (.iload 4, 2) := by decide +kernel
theorem dL_law_801 : decode cL_law 801 = .ok (.iconst 3, 1) := by decide +kernel
theorem dL_law_802 : decode cL_law 802 = .ok (.iadd, 1) := by decide +kernel
theorem dL_law_803 : decode cL_law 803 = .ok (.iaload, 1) := by decide +kernel
theorem dL_law_804 : decode cL_law 804 = .ok (.aload_n 3, 1) := by decide +kernel
theorem dL_law_805 : decode cL_law 805 = .ok (.invokestatic 127, 3) := by decide +kernel
theorem dL_law_808 : decode cL_law 808 = .ok (.istore 5, 2) := by decide +kernel
theorem dL_law_810 : decode cL_law 810 = .ok (.aload_n 2, 1) := by decide +kernel
theorem dL_law_811 : decode cL_law 811 = .ok (.aload_n 0, 1) := by decide +kernel
theorem dL_law_812 : decode cL_law 812 = .ok (.iload 4, 2) := by decide +kernel
theorem dL_law_814 : decode cL_law 814 = .ok (.iconst 1, 1) := by decide +kernel
theorem dL_law_815 : decode cL_law 815 = .ok (.iadd, 1) := by decide +kernel
theorem dL_law_816 : decode cL_law 816 = .ok (.iaload, 1) := by decide +kernel
theorem dL_law_817 : decode cL_law 817 = .ok (.aload_n 0, 1) := by decide +kernel
theorem dL_law_818 : decode cL_law 818 = .ok (.iload 4, 2) := by decide +kernel
theorem dL_law_820 : decode cL_law 820 = .ok (.iconst 2, 1) := by decide +kernel
theorem dL_law_821 : decode cL_law 821 = .ok (.iadd, 1) := by decide +kernel
theorem dL_law_822 : decode cL_law 822 = .ok (.iaload, 1) := by decide +kernel
theorem dL_law_823 : decode cL_law 823 = .ok (.aload_n 0, 1) := by decide +kernel
theorem dL_law_824 : decode cL_law 824 = .ok (.iload 4, 2) := by decide +kernel
theorem dL_law_826 : decode cL_law 826 = .ok (.iconst 3, 1) := by decide +kernel
theorem dL_law_827 : decode cL_law 827 = .ok (.iadd, 1) := by decide +kernel
theorem dL_law_828 : decode cL_law 828 = .ok (.iaload, 1) := by decide +kernel
theorem dL_law_829 : decode cL_law 829 = .ok (.invokevirtual 129, 3) := by decide +kernel
theorem dL_law_832 : decode cL_law 832 = .ok (.istore 6, 2) := by decide +kernel
theorem dL_law_834 : decode cL_law 834 = .ok (.aload_n 2, 1) := by decide +kernel
theorem dL_law_835 : decode cL_law 835 = .ok (.invokevirtual 74, 3) := by decide +kernel
theorem dL_law_838 : decode cL_law 838 = .ok (.iload 5, 2) := by decide +kernel
theorem dL_law_840 : decode cL_law 840 = .ok (.if_icmp .eq 5, 3) := by decide +kernel
theorem dL_law_843 : decode cL_law 843 = .ok (.iconst 0, 1) := by decide +kernel
theorem dL_law_844 : decode cL_law 844 = .ok (.ireturn, 1) := by decide +kernel
theorem dL_law_845 : decode cL_law 845 = .ok (.iload 5, 2) := by decide +kernel
theorem dL_law_847 : decode cL_law 847 = .ok (.ifCond .ne 15, 3) := by decide +kernel
theorem dL_law_850 : decode cL_law 850 = .ok (.aload_n 3, 1) := by decide +kernel
theorem dL_law_851 : decode cL_law 851 = .ok (.iconst 0, 1) := by decide +kernel
theorem dL_law_852 : decode cL_law 852 = .ok (.laload, 1) := by decide +kernel
theorem dL_law_853 : decode cL_law 853 = .ok (.iload 6, 2) := by decide +kernel
theorem dL_law_855 : decode cL_law 855 = .ok (.i2l, 1) := by decide +kernel
theorem dL_law_856 : decode cL_law 856 = .ok (.lcmp, 1) := by decide +kernel
theorem dL_law_857 : decode cL_law 857 = .ok (.ifCond .eq 5, 3) := by decide +kernel
theorem dL_law_860 : decode cL_law 860 = .ok (.iconst 0, 1) := by decide +kernel
theorem dL_law_861 : decode cL_law 861 = .ok (.ireturn, 1) := by decide +kernel
theorem dL_law_862 : decode cL_law 862 = .ok (.goto 350, 3) := by decide +kernel
theorem dL_law_865 : decode cL_law 865 = .ok (.aload_n 1, 1) := by decide +kernel
theorem dL_law_866 : decode cL_law 866 = .ok (.aload_n 0, 1) := by decide +kernel
theorem dL_law_867 : decode cL_law 867 = .ok (.iload 4, 2) := by decide +kernel
theorem dL_law_869 : decode cL_law 869 = .ok (.iconst 1, 1) := by decide +kernel
theorem dL_law_870 : decode cL_law 870 = .ok (.iadd, 1) := by decide +kernel
theorem dL_law_871 : decode cL_law 871 = .ok (.iaload, 1) := by decide +kernel
theorem dL_law_872 : decode cL_law 872 = .ok (.aload_n 3, 1) := by decide +kernel
theorem dL_law_873 : decode cL_law 873 = .ok (.invokestatic 130, 3) := by decide +kernel
theorem dL_law_876 : decode cL_law 876 = .ok (.istore 5, 2) := by decide +kernel
theorem dL_law_878 : decode cL_law 878 = .ok (.aload_n 2, 1) := by decide +kernel
theorem dL_law_879 : decode cL_law 879 = .ok (.aload_n 0, 1) := by decide +kernel
theorem dL_law_880 : decode cL_law 880 = .ok (.iload 4, 2) := by decide +kernel
theorem dL_law_882 : decode cL_law 882 = .ok (.iconst 1, 1) := by decide +kernel
theorem dL_law_883 : decode cL_law 883 = .ok (.iadd, 1) := by decide +kernel
theorem dL_law_884 : decode cL_law 884 = .ok (.iaload, 1) := by decide +kernel
theorem dL_law_885 : decode cL_law 885 = .ok (.invokevirtual 132, 3) := by decide +kernel
theorem dL_law_888 : decode cL_law 888 = .ok (.istore 6, 2) := by decide +kernel
theorem dL_law_890 : decode cL_law 890 = .ok (.aload_n 2, 1) := by decide +kernel
theorem dL_law_891 : decode cL_law 891 = .ok (.invokevirtual 74, 3) := by decide +kernel
theorem dL_law_894 : decode cL_law 894 = .ok (.iload 5, 2) := by decide +kernel
theorem dL_law_896 : decode cL_law 896 = .ok (.if_icmp .eq 5, 3) := by decide +kernel
theorem dL_law_899 : decode cL_law 899 = .ok (.iconst 0, 1) := by decide +kernel
theorem dL_law_900 : decode cL_law 900 = .ok (.ireturn, 1) := by decide +kernel
theorem dL_law_901 : decode cL_law 901 = .ok (.iload 5, 2) := by decide +kernel
theorem dL_law_903 : decode cL_law 903 = .ok (.ifCond .ne 15, 3) := by decide +kernel
theorem dL_law_906 : decode cL_law 906 = .ok (.aload_n 3, 1) := by decide +kernel
theorem dL_law_907 : decode cL_law 907 = .ok (.iconst 0, 1) := by decide +kernel
theorem dL_law_908 : decode cL_law 908 = .ok (.laload, 1) := by decide +kernel
theorem dL_law_909 : decode cL_law 909 = .ok (.iload 6, 2) := by decide +kernel
theorem dL_law_911 : decode cL_law 911 = .ok (.i2l, 1) := by decide +kernel
theorem dL_law_912 : decode cL_law 912 = .ok (.lcmp, 1) := by decide +kernel
theorem dL_law_913 : decode cL_law 913 = .ok (.ifCond .eq 5, 3) := by decide +kernel
theorem dL_law_916 : decode cL_law 916 = .ok (.iconst 0, 1) := by decide +kernel
theorem dL_law_917 : decode cL_law 917 = .ok (.ireturn, 1) := by decide +kernel
theorem dL_law_918 : decode cL_law 918 = .ok (.goto 294, 3) := by decide +kernel
theorem dL_law_921 : decode cL_law 921 = .ok (.aload_n 1, 1) := by decide +kernel
theorem dL_law_922 : decode cL_law 922 = .ok (.aload_n 0, 1) := by decide +kernel
theorem dL_law_923 : decode cL_law 923 = .ok (.iload 4, 2) := by decide +kernel
theorem dL_law_925 : decode cL_law 925 = .ok (.iconst 1, 1) := by decide +kernel
theorem dL_law_926 : decode cL_law 926 = .ok (.iadd, 1) := by decide +kernel
theorem dL_law_927 : decode cL_law 927 = .ok (.iaload, 1) := by decide +kernel
theorem dL_law_928 : decode cL_law 928 = .ok (.aload_n 3, 1) := by decide +kernel
theorem dL_law_929 : decode cL_law 929 = .ok (.invokestatic 133, 3) := by decide +kernel
theorem dL_law_932 : decode cL_law 932 = .ok (.istore 5, 2) := by decide +kernel
theorem dL_law_934 : decode cL_law 934 = .ok (.aload_n 2, 1) := by decide +kernel
theorem dL_law_935 : decode cL_law 935 = .ok (.aload_n 0, 1) := by decide +kernel
theorem dL_law_936 : decode cL_law 936 = .ok (.iload 4, 2) := by decide +kernel
theorem dL_law_938 : decode cL_law 938 = .ok (.iconst 1, 1) := by decide +kernel
theorem dL_law_939 : decode cL_law 939 = .ok (.iadd, 1) := by decide +kernel
theorem dL_law_940 : decode cL_law 940 = .ok (.iaload, 1) := by decide +kernel
theorem dL_law_941 : decode cL_law 941 = .ok (.invokevirtual 135, 3) := by decide +kernel
theorem dL_law_944 : decode cL_law 944 = .ok (.istore 6, 2) := by decide +kernel
theorem dL_law_946 : decode cL_law 946 = .ok (.aload_n 2, 1) := by decide +kernel
theorem dL_law_947 : decode cL_law 947 = .ok (.invokevirtual 74, 3) := by decide +kernel
theorem dL_law_950 : decode cL_law 950 = .ok (.iload 5, 2) := by decide +kernel
theorem dL_law_952 : decode cL_law 952 = .ok (.if_icmp .eq 5, 3) := by decide +kernel
theorem dL_law_955 : decode cL_law 955 = .ok (.iconst 0, 1) := by decide +kernel
theorem dL_law_956 : decode cL_law 956 = .ok (.ireturn, 1) := by decide +kernel
theorem dL_law_957 : decode cL_law 957 = .ok (.iload 5, 2) := by decide +kernel
theorem dL_law_959 : decode cL_law 959 = .ok (.ifCond .ne 15, 3) := by decide +kernel
theorem dL_law_962 : decode cL_law 962 = .ok (.aload_n 3, 1) := by decide +kernel
theorem dL_law_963 : decode cL_law 963 = .ok (.iconst 0, 1) := by decide +kernel
theorem dL_law_964 : decode cL_law 964 = .ok (.laload, 1) := by decide +kernel
theorem dL_law_965 : decode cL_law 965 = .ok (.iload 6, 2) := by decide +kernel
theorem dL_law_967 : decode cL_law 967 = .ok (.i2l, 1) := by decide +kernel
theorem dL_law_968 : decode cL_law 968 = .ok (.lcmp, 1) := by decide +kernel
theorem dL_law_969 : decode cL_law 969 = .ok (.ifCond .eq 5, 3) := by decide +kernel
theorem dL_law_972 : decode cL_law 972 = .ok (.iconst 0, 1) := by decide +kernel
theorem dL_law_973 : decode cL_law 973 = .ok (.ireturn, 1) := by decide +kernel
theorem dL_law_974 : decode cL_law 974 = .ok (.goto 238, 3) := by decide +kernel
theorem dL_law_977 : decode cL_law 977 = .ok (.aload_n 1, 1) := by decide +kernel
theorem dL_law_978 : decode cL_law 978 = .ok (.aload_n 0, 1) := by decide +kernel
theorem dL_law_979 : decode cL_law 979 = .ok (.iload 4, 2) := by decide +kernel
theorem dL_law_981 : decode cL_law 981 = .ok (.iconst 1, 1) := by decide +kernel
theorem dL_law_982 : decode cL_law 982 = .ok (.iadd, 1) := by decide +kernel
theorem dL_law_983 : decode cL_law 983 = .ok (.iaload, 1) := by decide +kernel
theorem dL_law_984 : decode cL_law 984 = .ok (.aload_n 3, 1) := by decide +kernel
theorem dL_law_985 : decode cL_law 985 = .ok (.invokestatic 136, 3) := by decide +kernel
theorem dL_law_988 : decode cL_law 988 = .ok (.istore 5, 2) := by decide +kernel
theorem dL_law_990 : decode cL_law 990 = .ok (.aload_n 2, 1) := by decide +kernel
theorem dL_law_991 : decode cL_law 991 = .ok (.aload_n 0, 1) := by decide +kernel
theorem dL_law_992 : decode cL_law 992 = .ok (.iload 4, 2) := by decide +kernel
theorem dL_law_994 : decode cL_law 994 = .ok (.iconst 1, 1) := by decide +kernel
theorem dL_law_995 : decode cL_law 995 = .ok (.iadd, 1) := by decide +kernel
theorem dL_law_996 : decode cL_law 996 = .ok (.iaload, 1) := by decide +kernel
theorem dL_law_997 : decode cL_law 997 = .ok (.invokevirtual 138, 3) := by decide +kernel
theorem dL_law_1000 : decode cL_law 1000 = .ok (.istore 6, 2) := by decide +kernel
theorem dL_law_1002 : decode cL_law 1002 = .ok (.aload_n 2, 1) := by decide +kernel
theorem dL_law_1003 : decode cL_law 1003 = .ok (.invokevirtual 74, 3) := by decide +kernel
theorem dL_law_1006 : decode cL_law 1006 = .ok (.iload 5, 2) := by decide +kernel
theorem dL_law_1008 : decode cL_law 1008 = .ok (.if_icmp .eq 5, 3) := by decide +kernel
theorem dL_law_1011 : decode cL_law 1011 = .ok (.iconst 0, 1) := by decide +kernel
theorem dL_law_1012 : decode cL_law 1012 = .ok (.ireturn, 1) := by decide +kernel
theorem dL_law_1013 : decode cL_law 1013 = .ok (.iload 5, 2) := by decide +kernel
theorem dL_law_1015 : decode cL_law 1015 = .ok (.ifCond .ne 15, 3) := by decide +kernel
theorem dL_law_1018 : decode cL_law 1018 = .ok (.aload_n 3, 1) := by decide +kernel
theorem dL_law_1019 : decode cL_law 1019 = .ok (.iconst 0, 1) := by decide +kernel
theorem dL_law_1020 : decode cL_law 1020 = .ok (.laload, 1) := by decide +kernel
theorem dL_law_1021 : decode cL_law 1021 = .ok (.iload 6, 2) := by decide +kernel
theorem dL_law_1023 : decode cL_law 1023 = .ok (.i2l, 1) := by decide +kernel
theorem dL_law_1024 : decode cL_law 1024 = .ok (.lcmp, 1) := by decide +kernel
theorem dL_law_1025 : decode cL_law 1025 = .ok (.ifCond .eq 5, 3) := by decide +kernel
theorem dL_law_1028 : decode cL_law 1028 = .ok (.iconst 0, 1) := by decide +kernel
theorem dL_law_1029 : decode cL_law 1029 = .ok (.ireturn, 1) := by decide +kernel
theorem dL_law_1030 : decode cL_law 1030 = .ok (.goto 182, 3) := by decide +kernel
theorem dL_law_1033 : decode cL_law 1033 = .ok (.aload_n 1, 1) := by decide +kernel
theorem dL_law_1034 : decode cL_law 1034 = .ok (.aload_n 0, 1) := by decide +kernel
theorem dL_law_1035 : decode cL_law 1035 = .ok (.iload 4, 2) := by decide +kernel
theorem dL_law_1037 : decode cL_law 1037 = .ok (.iconst 1, 1) := by decide +kernel
theorem dL_law_1038 : decode cL_law 1038 = .ok (.iadd, 1) := by decide +kernel
theorem dL_law_1039 : decode cL_law 1039 = .ok (.iaload, 1) := by decide +kernel
theorem dL_law_1040 : decode cL_law 1040 = .ok (.aload_n 0, 1) := by decide +kernel
theorem dL_law_1041 : decode cL_law 1041 = .ok (.iload 4, 2) := by decide +kernel
theorem dL_law_1043 : decode cL_law 1043 = .ok (.iconst 2, 1) := by decide +kernel
theorem dL_law_1044 : decode cL_law 1044 = .ok (.iadd, 1) := by decide +kernel
theorem dL_law_1045 : decode cL_law 1045 = .ok (.iaload, 1) := by decide +kernel
theorem dL_law_1046 : decode cL_law 1046 = .ok (.aload_n 3, 1) := by decide +kernel
theorem dL_law_1047 : decode cL_law 1047 = .ok (.invokestatic 139, 3) := by decide +kernel
theorem dL_law_1050 : decode cL_law 1050 = .ok (.istore 5, 2) := by decide +kernel
theorem dL_law_1052 : decode cL_law 1052 = .ok (.aload_n 2, 1) := by decide +kernel
theorem dL_law_1053 : decode cL_law 1053 = .ok (.aload_n 0, 1) := by decide +kernel
theorem dL_law_1054 : decode cL_law 1054 = .ok (.iload 4, 2) := by decide +kernel
theorem dL_law_1056 : decode cL_law 1056 = .ok (.iconst 1, 1) := by decide +kernel
theorem dL_law_1057 : decode cL_law 1057 = .ok (.iadd, 1) := by decide +kernel
theorem dL_law_1058 : decode cL_law 1058 = .ok (.iaload, 1) := by decide +kernel
theorem dL_law_1059 : decode cL_law 1059 = .ok (.aload_n 0, 1) := by decide +kernel
theorem dL_law_1060 : decode cL_law 1060 = .ok (.iload 4, 2) := by decide +kernel
theorem dL_law_1062 : decode cL_law 1062 = .ok (.iconst 2, 1) := by decide +kernel
theorem dL_law_1063 : decode cL_law 1063 = .ok (.iadd, 1) := by decide +kernel
theorem dL_law_1064 : decode cL_law 1064 = .ok (.iaload, 1) := by decide +kernel
theorem dL_law_1065 : decode cL_law 1065 = .ok (.invokevirtual 141, 3) := by decide +kernel
theorem dL_law_1068 : decode cL_law 1068 = .ok (.istore 6, 2) := by decide +kernel
theorem dL_law_1070 : decode cL_law 1070 = .ok (.aload_n 2, 1) := by decide +kernel
theorem dL_law_1071 : decode cL_law 1071 = .ok (.invokevirtual 74, 3) := by decide +kernel
theorem dL_law_1074 : decode cL_law 1074 = .ok (.iload 5, 2) := by decide +kernel
theorem dL_law_1076 : decode cL_law 1076 = .ok (.if_icmp .eq 5, 3) := by decide +kernel
theorem dL_law_1079 : decode cL_law 1079 = .ok (.iconst 0, 1) := by decide +kernel
theorem dL_law_1080 : decode cL_law 1080 = .ok (.ireturn, 1) := by decide +kernel
theorem dL_law_1081 : decode cL_law 1081 = .ok (.iload 5, 2) := by decide +kernel
theorem dL_law_1083 : decode cL_law 1083 = .ok (.ifCond .ne 15, 3) := by decide +kernel
theorem dL_law_1086 : decode cL_law 1086 = .ok (.aload_n 3, 1) := by decide +kernel
theorem dL_law_1087 : decode cL_law 1087 = .ok (.iconst 0, 1) := by decide +kernel
theorem dL_law_1088 : decode cL_law 1088 = .ok (.laload, 1) := by decide +kernel
theorem dL_law_1089 : decode cL_law 1089 = .ok (.iload 6, 2) := by decide +kernel
theorem dL_law_1091 : decode cL_law 1091 = .ok (.i2l, 1) := by decide +kernel
theorem dL_law_1092 : decode cL_law 1092 = .ok (.lcmp, 1) := by decide +kernel
theorem dL_law_1093 : decode cL_law 1093 = .ok (.ifCond .eq 5, 3) := by decide +kernel
theorem dL_law_1096 : decode cL_law 1096 = .ok (.iconst 0, 1) := by decide +kernel
theorem dL_law_1097 : decode cL_law 1097 = .ok (.ireturn, 1) := by decide +kernel
theorem dL_law_1098 : decode cL_law 1098 = .ok (.goto 114, 3) := by decide +kernel
theorem dL_law_1101 : decode cL_law 1101 = .ok (.aload_n 1, 1) := by decide +kernel
theorem dL_law_1102 : decode cL_law 1102 = .ok (.invokevirtual 142, 3) := by decide +kernel
theorem dL_law_1105 : decode cL_law 1105 = .ok (.aload_n 2, 1) := by decide +kernel
theorem dL_law_1106 : decode cL_law 1106 = .ok (.invokevirtual 145, 3) := by decide +kernel
theorem dL_law_1109 : decode cL_law 1109 = .ok (.if_icmp .eq 103, 3) := by decide +kernel
theorem dL_law_1112 : decode cL_law 1112 = .ok (.iconst 0, 1) := by decide +kernel
theorem dL_law_1113 : decode cL_law 1113 = .ok (.ireturn, 1) := by decide +kernel
theorem dL_law_1114 : decode cL_law 1114 = .ok (.aload_n 1, 1) := by decide +kernel
theorem dL_law_1115 : decode cL_law 1115 = .ok (.invokevirtual 146, 3) := by decide +kernel
theorem dL_law_1118 : decode cL_law 1118 = .ok (.dstore 5, 2) := by decide +kernel
theorem dL_law_1120 : decode cL_law 1120 = .ok (.aload_n 2, 1) := by decide +kernel
theorem dL_law_1121 : decode cL_law 1121 = .ok (.invokevirtual 150, 3) := by decide +kernel
theorem dL_law_1124 : decode cL_law 1124 = .ok (.dstore 7, 2) := by decide +kernel
theorem dL_law_1126 : decode cL_law 1126 = .ok (.dload 5, 2) := by decide +kernel
theorem dL_law_1128 : decode cL_law 1128 = .ok (.dload 7, 2) := by decide +kernel
theorem dL_law_1130 : decode cL_law 1130 = .ok (.dcmp .l, 1) := by decide +kernel
theorem dL_law_1131 : decode cL_law 1131 = .ok (.ifCond .eq 21, 3) := by decide +kernel
theorem dL_law_1134 : decode cL_law 1134 = .ok (.dload 5, 2) := by decide +kernel
theorem dL_law_1136 : decode cL_law 1136 = .ok (.dload 5, 2) := by decide +kernel
theorem dL_law_1138 : decode cL_law 1138 = .ok (.dcmp .l, 1) := by decide +kernel
theorem dL_law_1139 : decode cL_law 1139 = .ok (.ifCond .eq 11, 3) := by decide +kernel
theorem dL_law_1142 : decode cL_law 1142 = .ok (.dload 7, 2) := by decide +kernel
theorem dL_law_1144 : decode cL_law 1144 = .ok (.dload 7, 2) := by decide +kernel
theorem dL_law_1146 : decode cL_law 1146 = .ok (.dcmp .l, 1) := by decide +kernel
theorem dL_law_1147 : decode cL_law 1147 = .ok (.ifCond .ne 5, 3) := by decide +kernel
theorem dL_law_1150 : decode cL_law 1150 = .ok (.iconst 0, 1) := by decide +kernel
theorem dL_law_1151 : decode cL_law 1151 = .ok (.ireturn, 1) := by decide +kernel
theorem dL_law_1152 : decode cL_law 1152 = .ok (.goto 60, 3) := by decide +kernel
theorem dL_law_1155 : decode cL_law 1155 = .ok (.aload_n 1, 1) := by decide +kernel
theorem dL_law_1156 : decode cL_law 1156 = .ok (.invokevirtual 151, 3) := by decide +kernel
theorem dL_law_1159 : decode cL_law 1159 = .ok (.f2d, 1) := by decide +kernel
theorem dL_law_1160 : decode cL_law 1160 = .ok (.dstore 5, 2) := by decide +kernel
theorem dL_law_1162 : decode cL_law 1162 = .ok (.aload_n 2, 1) := by decide +kernel
theorem dL_law_1163 : decode cL_law 1163 = .ok (.invokevirtual 155, 3) := by decide +kernel
theorem dL_law_1166 : decode cL_law 1166 = .ok (.f2d, 1) := by decide +kernel
theorem dL_law_1167 : decode cL_law 1167 = .ok (.dstore 7, 2) := by decide +kernel
theorem dL_law_1169 : decode cL_law 1169 = .ok (.dload 5, 2) := by decide +kernel
theorem dL_law_1171 : decode cL_law 1171 = .ok (.dload 7, 2) := by decide +kernel
theorem dL_law_1173 : decode cL_law 1173 = .ok (.dcmp .l, 1) := by decide +kernel
theorem dL_law_1174 : decode cL_law 1174 = .ok (.ifCond .eq 21, 3) := by decide +kernel
theorem dL_law_1177 : decode cL_law 1177 = .ok (.dload 5, 2) := by decide +kernel
theorem dL_law_1179 : decode cL_law 1179 = .ok (.dload 5, 2) := by decide +kernel
theorem dL_law_1181 : decode cL_law 1181 = .ok (.dcmp .l, 1) := by decide +kernel
theorem dL_law_1182 : decode cL_law 1182 = .ok (.ifCond .eq 11, 3) := by decide +kernel
theorem dL_law_1185 : decode cL_law 1185 = .ok (.dload 7, 2) := by decide +kernel
theorem dL_law_1187 : decode cL_law 1187 = .ok (.dload 7, 2) := by decide +kernel
theorem dL_law_1189 : decode cL_law 1189 = .ok (.dcmp .l, 1) := by decide +kernel
theorem dL_law_1190 : decode cL_law 1190 = .ok (.ifCond .ne 5, 3) := by decide +kernel
theorem dL_law_1193 : decode cL_law 1193 = .ok (.iconst 0, 1) := by decide +kernel
theorem dL_law_1194 : decode cL_law 1194 = .ok (.ireturn, 1) := by decide +kernel
theorem dL_law_1195 : decode cL_law 1195 = .ok (.goto 17, 3) := by decide +kernel
theorem dL_law_1198 : decode cL_law 1198 = .ok (.aload_n 1, 1) := by decide +kernel
theorem dL_law_1199 : decode cL_law 1199 = .ok (.invokevirtual 156, 3) := by decide +kernel
theorem dL_law_1202 : decode cL_law 1202 = .ok (.aload_n 2, 1) := by decide +kernel
theorem dL_law_1203 : decode cL_law 1203 = .ok (.invokevirtual 160, 3) := by decide +kernel
theorem dL_law_1206 : decode cL_law 1206 = .ok (.lcmp, 1) := by decide +kernel
theorem dL_law_1207 : decode cL_law 1207 = .ok (.ifCond .eq 5, 3) := by decide +kernel
theorem dL_law_1210 : decode cL_law 1210 = .ok (.iconst 0, 1) := by decide +kernel
theorem dL_law_1211 : decode cL_law 1211 = .ok (.ireturn, 1) := by decide +kernel
theorem dL_law_1212 : decode cL_law 1212 = .ok (.iinc 4 4, 3) := by decide +kernel
theorem dL_law_1215 : decode cL_law 1215 = .ok (.goto (-1192), 3) := by decide +kernel
theorem dL_law_1218 : decode cL_law 1218 = .ok (.iconst 1, 1) := by decide +kernel
theorem dL_law_1219 : decode cL_law 1219 = .ok (.ireturn, 1) := by decide +kernel
end
section
/-! ===== the world: all cells of both objects by number; the k-th lies at b + k; what may change is one table of ints ===== -/
abbrev wI : Type := Nat → Nat → Int32
abbrev wG : Type := Nat → Int64
abbrev wC4 : Type := ClassId × ClassId × ClassId × ClassId
/-- kind and class (0), or kind and length (1: ints, 2: chars, 3: states, 4: longs) -/
def wSt : List (Nat × Nat) := [(0, 3), (0, 0), (1, 6), (1, 6), (0, 1), (1, 5), (1, 5), (0, 0), (1, 6), (1, 6), (1, 5)]
def wDs : List (Nat × Nat) := [(0, 0), (1, 6), (1, 6)]
def wShL : List (Nat × Nat) := (0, 5) :: wSt ++ wSt ++ [(3, 6), (0, 4), (2, 60), (1, 500), (1, 4), (1, 4), (1, 4)] ++ wDs ++ wDs ++ [(0, 2), (1, 111), (1, 111)] ++ wDs ++ wDs ++ wSt ++ wSt ++ wSt ++ wSt ++ wSt ++ wSt ++ [(0, 6), (1, 49), (1, 49), (1, 294), (1, 49), (1, 60), (1, 12), (1, 500), (1, 4), (1, 4), (1, 4), (1, 4), (1, 4), (4, 1)]
def wSh (k : Nat) : Nat × Nat := wShL.getD k (9, 0)
/-- a field that holds a cell of its object: how far behind the object it lies -/
def wOff (ci j : Nat) : Option Nat := match ci with
  | 0 => [some 1, some 2].getD j none
  | 1 => [some 1, some 2].getD j none
  | 2 => [some 1, some 2, none, some 3, some 6, none, none].getD j none
  | 3 => [some 1, some 4, some 7, none, none, some 10].getD j none
  | 4 => [some 1, none, some 2, none, none, some 3, some 4, some 5].getD j none
  | 5 => [some 1, some 12, none, some 23, none, some 24, some 30, some 33, some 36].getD j none
  | 6 => [none, some 1, some 2, some 3, none, some 4, none, some 5, none, some 6, some 7, none, none, some 8, some 9, some 10, some 11, some 12].getD j none
  | _ => none
def wNf (ci : Nat) : Nat := [2, 2, 7, 9, 11, 9, 21].getD ci 0
def wFv (b : Nat) (I : wI) (ci k j : Nat) : Value := match wOff ci j with
  | some o => .ref (b + (k + o))
  | none => .int (I k j)
def wSv (x : Int32) : Nat := 45 + 11 * x.toNatClampNeg
def wEs (cs : wC4) (b : Nat) (G : wG) (I : wI) (sh : Nat × Nat) (k : Nat) : va_E := match sh.1 with
  | 0 => .inr (sh.2, (List.range (wNf sh.2)).map (wFv b I sh.2 k))
  | 1 => .inl (cs.1, sh.2, .inl (I k))
  | 2 => .inl (cs.2.1, sh.2, .inl (I k))
  | 3 => .inl (cs.2.2.1, sh.2, .inr (.inr (.inr (.inr (fun j => some (b + wSv (I k j)))))))
  | _ => .inl (cs.2.2.2, sh.2, .inr (.inl G))
def wLs (cs : wC4) (b : Nat) (G : wG) (I : wI) : va_W := (List.range 125).map (fun k => (b + k, wEs cs b G I (wSh k) k))
def wU (I : wI) (k j : Nat) (x : Int32) : wI := fun c => if c = k then upd (I k) j x else I c
theorem wU_same {I : wI} {k j : Nat} {x : Int32} : wU I k j x k = upd (I k) j x := by simp [wU]
theorem wU_ne {I : wI} {k j c : Nat} {x : Int32} (h : c ≠ k) : wU I k j x c = I c := by simp [wU, h]
theorem wU_at {I : wI} {k j : Nat} {x : Int32} : wU I k j x k j = x := by simp [wU, upd]
theorem wU_off {I : wI} {k j c i : Nat} {x : Int32} (h : c ≠ k ∨ i ≠ j) : wU I k j x c i = I c i := by
  by_cases hc : c = k
  · subst hc
    rcases h with h | h
    · exact absurd rfl h
    · simp [wU, upd, h]
  · simp [wU, hc]
theorem wSh_lt {k : Nat} {x : Nat × Nat} (h : wSh k = x) (hx : x.1 < 9) : k < 125 := by
  rcases Nat.lt_or_ge k 125 with q | q
  · exact q
  · exfalso
    have hl : wShL.length = 125 := rfl
    rw [← h, wSh, List.getD_eq_getElem?_getD, List.getElem?_eq_none (by omega)] at hx
    exact absurd hx (by decide)
theorem wLs_get {cs : wC4} {b : Nat} {G : wG} {I : wI} {k : Nat} (hk : k < 125) : (wLs cs b G I)[k]? = some (b + k, wEs cs b G I (wSh k) k) := by
  simp [wLs, List.getElem?_map, List.getElem?_range hk]
theorem wLs_inv {cs : wC4} {b : Nat} {G : wG} {I : wI} {k : Nat} {q : Nat × va_E} (h : (wLs cs b G I)[k]? = some q) : k < 125 ∧ q = (b + k, wEs cs b G I (wSh k) k) := by
  have hk : k < 125 := by
    have := (List.getElem?_eq_some_iff.mp h).1
    simpa [wLs] using this
  rw [wLs_get hk] at h
  exact ⟨hk, (Option.some.inj h).symm⟩
theorem wLs_D {cs : wC4} {b : Nat} {G : wG} {I : wI} : va_D (fun q => b ≤ q) (wLs cs b G I) := by
  refine ⟨fun i j p q hi hj h => ?_, fun k q hk => ?_⟩
  · obtain ⟨-, rfl⟩ := wLs_inv hi
    obtain ⟨-, rfl⟩ := wLs_inv hj
    exact Nat.add_left_cancel h
  · obtain ⟨-, rfl⟩ := wLs_inv hk
    exact Nat.le_add_right _ _
theorem wLs_set {cs : wC4} {b : Nat} {G G' : wG} {I I' : wI} {k : Nat} {e : va_E} (hk : k < 125) (he : e = wEs cs b G' I' (wSh k) k) (ho : ∀ c, c < 125 → c ≠ k → wEs cs b G' I' (wSh c) c = wEs cs b G I (wSh c) c) : (wLs cs b G I).set k (b + k, e) = wLs cs b G' I' := by
  refine List.ext_getElem? fun c => ?_
  rw [List.getElem?_set]
  by_cases hck : k = c
  · subst hck
    rw [if_pos rfl, if_pos (by simpa [wLs] using hk), wLs_get hk, he]
  · rw [if_neg hck]
    by_cases hc : c < 125
    · rw [wLs_get hc, wLs_get hc, ho c hc (Ne.symm hck)]
    · rw [List.getElem?_eq_none (by simpa [wLs] using hc), List.getElem?_eq_none (by simpa [wLs] using hc)]
theorem wEs_congr {cs : wC4} {b : Nat} {G : wG} {I I' : wI} {sh : Nat × Nat} {k : Nat} (h : I' k = I k) : wEs cs b G I' sh k = wEs cs b G I sh k := by
  unfold wEs
  have hf : wFv b I' sh.2 k = wFv b I sh.2 k := by funext j; unfold wFv; rw [h]
  rw [hf, h]
/-- two tables that agree where the cells look are the same world -/
theorem wLs_ext {cs : wC4} {b : Nat} {G : wG} {I I' : wI} (h : ∀ k, k < 125 → I' k = I k) : wLs cs b G I' = wLs cs b G I := by
  refine List.ext_getElem? fun c => ?_
  by_cases hc : c < 125
  · rw [wLs_get hc, wLs_get hc, wEs_congr (h c hc)]
  · rw [List.getElem?_eq_none (by simpa [wLs] using hc), List.getElem?_eq_none (by simpa [wLs] using hc)]
theorem wLs_putO {cs : wC4} {b : Nat} {G : wG} {I : wI} {k ci j : Nat} {x : Int32} (hs : wSh k = (0, ci)) (hj : j < wNf ci) (ho : wOff ci j = none) : (wLs cs b G I).set k (b + k, .inr (ci, ((List.range (wNf ci)).map (wFv b I ci k)).set j (.int x))) = wLs cs b G (wU I k j x) := by
  refine wLs_set (wSh_lt hs (Nat.le_of_ble_eq_true rfl)) ?_ (fun c _ hc => wEs_congr (wU_ne hc))
  rw [hs]
  show Sum.inr _ = Sum.inr _
  congr 2
  refine List.ext_getElem? fun i => ?_
  rw [List.getElem?_set]
  by_cases hij : j = i
  · subst hij
    rw [if_pos rfl, if_pos (by simpa using hj), List.getElem?_map, List.getElem?_range hj]
    simp [wFv, ho, wU_at]
  · rw [if_neg hij]
    by_cases hi : i < wNf ci
    · rw [List.getElem?_map, List.getElem?_map, List.getElem?_range hi]
      simp only [Option.map_some, wFv]
      cases wOff ci i with
      | some o => rfl
      | none => rw [wU_off (Or.inr (Ne.symm hij))]
    · rw [List.getElem?_eq_none (by simpa using hi), List.getElem?_eq_none (by simpa using hi)]
theorem wLs_putI {cs : wC4} {b : Nat} {G : wG} {I : wI} {k n i : Nat} {x : Int32} (hs : wSh k = (1, n)) : (wLs cs b G I).set k (b + k, .inl (cs.1, n, .inl (upd (I k) i x))) = wLs cs b G (wU I k i x) := by
  refine wLs_set (wSh_lt hs (Nat.le_of_ble_eq_true rfl)) ?_ (fun c _ hc => wEs_congr (wU_ne hc))
  rw [hs]
  show Sum.inl _ = Sum.inl _
  rw [wU_same]
theorem wLs_putC {cs : wC4} {b : Nat} {G : wG} {I : wI} {k n i : Nat} {x : Int32} (hs : wSh k = (2, n)) : (wLs cs b G I).set k (b + k, .inl (cs.2.1, n, .inl (upd (I k) i x))) = wLs cs b G (wU I k i x) := by
  refine wLs_set (wSh_lt hs (Nat.le_of_ble_eq_true rfl)) ?_ (fun c _ hc => wEs_congr (wU_ne hc))
  rw [hs]
  show Sum.inl _ = Sum.inl _
  rw [wU_same]
theorem wLs_putS {cs : wC4} {b : Nat} {G : wG} {I : wI} {k n i : Nat} {x : Int32} (hs : wSh k = (3, n)) : (wLs cs b G I).set k (b + k, .inl (cs.2.2.1, n, .inr (.inr (.inr (.inr (va_up (fun j => some (b + wSv (I k j))) i (some (b + wSv x)))))))) = wLs cs b G (wU I k i x) := by
  refine wLs_set (wSh_lt hs (Nat.le_of_ble_eq_true rfl)) ?_ (fun c _ hc => wEs_congr (wU_ne hc))
  rw [hs]
  have hf : va_up (fun j => some (b + wSv (I k j))) i (some (b + wSv x)) = (fun j => some (b + wSv (wU I k i x k j))) := by
    funext j
    simp only [va_up, wU_same, upd]
    split <;> rfl
  rw [hf]
  rfl
theorem wLs_putL {cs : wC4} {b : Nat} {G G' : wG} {I : wI} : (wLs cs b G I).set 124 (b + 124, .inl (cs.2.2.2, 1, .inr (.inl G'))) = wLs cs b G' I := by
  refine wLs_set (by decide) rfl (fun c hc hn => ?_)
  have key : ∀ c, c < 125 → c ≠ 124 → (wSh c).1 < 4 := by decide +kernel
  have h4 := key c hc hn
  generalize wSh c = q at h4 ⊢
  obtain ⟨a, n⟩ := q
  have h4 : a < 4 := h4
  match a, h4 with
  | 0, _ => rfl
  | 1, _ => rfl
  | 2, _ => rfl
  | 3, _ => rfl
def wTys (cs : wC4) : List (ClassId × FieldType) := [(cs.1, .int), (cs.2.1, .char), (cs.2.2.1, .object RX3), (cs.2.2.2, .long)]
/-- the texts of the exceptions -/
def wStr : List (String × Nat × String) := [(RX5, 233, "what is not 0 to 9"), (RX5, 307, "there is no such position"), (RX5, 190, "what is not 0 to 4"), (RX5, 304, "there is no such key"), (RX5, 207, "what is not 0 to 5"), (RX5, 246, "back is not 0 or 1"), (RX5, 235, "what is not 0 or 1"), (RX5, 309, "a position of the key is stuck"), (RX5, 68, "the buffer is not a complete word"), (RX5, 78, "the word has too many turns"), (RX5, 122, "positions or strength out of range"), (RX5, 159, "the code is not 33 to 126"), (RX5, 161, "the buffer is full"), (RX5, 173, "there is no snapshot"), (RX5, 175, "there is no saved state")]
/-- what the tables and the statics say, of the state alone -/
def wEn (ad : Nat → Nat) (b : Nat) (U : State) (H : Heap) : Prop :=
  (∀ w ∈ lw_nw, va_Nw w U) ∧ (∀ (i : Nat) (q : String × Nat × String), wStr[i]? = some q → vk_R q.1 q.2.1 q.2.2 (ad i) U) ∧ vx_Zq Bundle.tN "UNASSIGNED_STACK" Bundle.steD (fun q => b ≤ q) U H ∧ vx_Zq Bundle.tN "SUPPRESSED_SENTINEL" Bundle.listD (fun q => b ≤ q) U H
theorem wNw_warm {s U : State} (hW : s.WarmedH U.vm) {w : Cond} (hn : lw_isNw w = true) (h : va_Nw w s) : va_Nw w U := by
  cases w <;> first | exact absurd (show false = true from hn) (by decide) | exact va_Nw.warmM hW h | exact va_Nw.warmF hW h | exact va_Nw.warmC hW h | exact va_Nw.warmD hW h
theorem wEn_at {ad : Nat → Nat} {b : Nat} {s U : State} {H : Heap} {locs : List Loc} (hW : s.WarmedH U.vm) (hU : U.heap = H) (hS : va_S (fun q => b ≤ q) s.heap H locs) (h : wEn ad b s s.heap) : wEn ad b U U.heap := by
  obtain ⟨h1, h2, h3, h4⟩ := h
  have hk : ∀ a : Nat, a < s.heap.size → ¬ b ≤ a → H[a]? = s.heap[a]? := hS.2.1
  exact ⟨fun w hw => wNw_warm hW (List.mem_filter.mp hw).2 (h1 w hw), fun i q hq => vk_R.warm hW (h2 i q hq), by rw [hU]; exact (h3.kept hk).moved hW.alike, by rw [hU]; exact (h4.kept hk).moved hW.alike⟩
def wPr (D : va_G) (cs : wC4) (ad : Nat → Nat) (b : Nat) (G : wG) (I : wI) (U : State) : Prop := va_K D vwCl (wTys cs) U ∧ wEn ad b U U.heap ∧ va_P D vwCl (wLs cs b G I) U.heap
def wPo (D : va_G) (cs : wC4) (b : Nat) (G : wG) (I : wI) (t : State) : Prop := va_P D vwCl (wLs cs b G I) t.heap
theorem wNw_same {u U : State} (hv : U.vm = u.vm) {w : Cond} (hn : lw_isNw w = true) (h : va_Nw w u) : va_Nw w U := by
  exact va_Nw.same (by cases w <;> first | exact absurd (show false = true from hn) (by decide) | rfl) hv.symm h
theorem wPr_blind {D : va_G} {cs : wC4} {ad : Nat → Nat} {b : Nat} {G : wG} {I : wI} {av : List Value} : FrameBlind (va_Pc av (wPr D cs ad b G I)) := by
  intro a U g mk h
  obtain ⟨h0, h1, ⟨h2, h3, h4, h5⟩, h6⟩ := h
  refine ⟨h0, va_K.moved (u := U) (U := U.calling g mk a) (Vm.Alike.refl U.vm) h1, ⟨fun w hw => wNw_same (u := U) (U := U.calling g mk a) rfl (List.mem_filter.mp hw).2 (h2 w hw), fun i q hq => vk_R.same (u := U) (U := U.calling g mk a) rfl (h3 i q hq), vx_Zq.moved (u := U) (U := U.calling g mk a) (Vm.Alike.refl U.vm) h4, vx_Zq.moved (u := U) (U := U.calling g mk a) (Vm.Alike.refl U.vm) h5⟩, h6⟩
/-- the heap of a walk -/
def wH (D : va_G) (cs : wC4) (b : Nat) (G : wG) (I : wI) (s : State) (H : Heap) (locs : List Loc) : Prop := va_P D vwCl (wLs cs b G I) H ∧ va_S (fun q => b ≤ q) s.heap H locs
theorem wPr_of {D : va_G} {cs : wC4} {ad : Nat → Nat} {b : Nat} {G : wG} {I : wI} {s : State} {H : Heap} {locs : List Loc} {av : List Value} (hK : va_K D vwCl (wTys cs) s) (hE : wEn ad b s s.heap) (hH : wH D cs b G I s H locs) (U : State) (hU : U.heap = H) (hW : s.WarmedH U.vm) : va_Pc av (wPr D cs ad b G I) av.toArray U :=
  ⟨rfl, va_K.moved hW.alike hK, wEn_at hW hU hH.2 hE, by rw [hU]; exact hH.1⟩
/-- what is said of a field's row -/
def wCk (ci : Nat) (C : String) (T : u_T) (N : Nat) (ty : Nat → FieldType) : Prop := vwCl[ci]? = some (C, T, N) ∧ (∀ w ∈ u_ws C T N, w ∈ lw_all) ∧ wNf ci = N ∧ (∀ k, k < N → parseFieldDescriptor (T k).2.2.1 = some (ty k)) ∧ (∀ a, a < N → ∀ b, b < N → a ≠ b → (T a).2.1 ≠ (T b).2.1) ∧ ∀ k, k < N → (T k).1 = C
theorem ck0 : wCk 0 RX0 TX0 2 tyX0 := ⟨rfl, by decide +kernel, rfl, tyX0_ok, nmX0, by decide +kernel⟩
theorem ck1 : wCk 1 RX1 TX1 2 tyX1 := ⟨rfl, by decide +kernel, rfl, tyX1_ok, nmX1, by decide +kernel⟩
theorem ck2 : wCk 2 RX2 TX2 7 tyX2 := ⟨rfl, by decide +kernel, rfl, tyX2_ok, nmX2, by decide +kernel⟩
theorem ck3 : wCk 3 RX3 TX3 9 tyX3 := ⟨rfl, by decide +kernel, rfl, tyX3_ok, nmX3, by decide +kernel⟩
theorem ck4 : wCk 4 RX4 TX4 11 tyX4 := ⟨rfl, by decide +kernel, rfl, tyX4_ok, nmX4, by decide +kernel⟩
theorem ck5 : wCk 5 RX5 TX5 9 tyX5 := ⟨rfl, by decide +kernel, rfl, tyX5_ok, nmX5, by decide +kernel⟩
theorem ck6 : wCk 6 RX6 TX6 21 tyX6 := ⟨rfl, by decide +kernel, rfl, tyX6_ok, nmX6, by decide +kernel⟩
end
section
/-! ===== an instruction, a row: over the world ===== -/
section WROWS
variable {p : Program} {l : Launch} {e : Env} {R : Room} {s : State} {m : MethodId} {args : Array Value} {below : List Frame} {meth : Method} {c : Code} {H : Heap} {locs : List Loc} {cells slots : Nat} {Q : State → Prop}
variable {cc : ByteArray} {nL pc : Nat} {ls : Array Slot} {rest : List Value} {own : String} {D : va_G} {cs : wC4} {ad : Nat → Nat} {b : Nat} {G : wG} {I : wI}
variable {ci : Nat} {C : String} {T : u_T} {N : Nat} {ty : Nat → FieldType} {k : Nat} {ix : Nat}
theorem wL_obj (hs : wSh k = (0, ci)) : (wLs cs b G I)[k]? = some (b + k, .inr (ci, (List.range (wNf ci)).map (wFv b I ci k))) := by
  have h := wLs_get (cs := cs) (b := b) (G := G) (I := I) (wSh_lt hs (Nat.le_of_ble_eq_true rfl))
  rw [hs] at h
  exact h
theorem wL_ints {n : Nat} (hs : wSh k = (1, n)) : (wLs cs b G I)[k]? = some (b + k, .inl (cs.1, n, .inl (I k))) := by
  have h := wLs_get (cs := cs) (b := b) (G := G) (I := I) (wSh_lt hs (Nat.le_of_ble_eq_true rfl))
  rw [hs] at h
  exact h
theorem wL_chars {n : Nat} (hs : wSh k = (2, n)) : (wLs cs b G I)[k]? = some (b + k, .inl (cs.2.1, n, .inl (I k))) := by
  have h := wLs_get (cs := cs) (b := b) (G := G) (I := I) (wSh_lt hs (Nat.le_of_ble_eq_true rfl))
  rw [hs] at h
  exact h
theorem wL_states {n : Nat} (hs : wSh k = (3, n)) : (wLs cs b G I)[k]? = some (b + k, .inl (cs.2.2.1, n, .inr (.inr (.inr (.inr (fun j => some (b + wSv (I k j)))))))) := by
  have h := wLs_get (cs := cs) (b := b) (G := G) (I := I) (wSh_lt hs (Nat.le_of_ble_eq_true rfl))
  rw [hs] at h
  exact h
theorem wL_long : (wLs cs b G I)[124]? = some (b + 124, .inl (cs.2.2.2, 1, .inr (.inl G))) := wLs_get (by decide)
theorem wF_int {j : Nat} (hj : j < wNf ci) (ho : wOff ci j = none) : ((List.range (wNf ci)).map (wFv b I ci k))[j]? = some (.int (I k j)) := by
  rw [List.getElem?_map, List.getElem?_range hj]
  simp [wFv, ho]
theorem wF_ref {j o : Nat} (hj : j < wNf ci) (ho : wOff ci j = some o) : ((List.range (wNf ci)).map (wFv b I ci k))[j]? = some (.ref (b + (k + o))) := by
  rw [List.getElem?_map, List.getElem?_range hj]
  simp [wFv, ho]
theorem w_geti (hX : CallFix p m c cc nL s args lw_all own) (hK : va_K D vwCl (wTys cs) s) (hH : wH D cs b G I s H locs) (hc : wCk ci C T N ty) (hs : wSh k = (0, ci)) (j : Nat) (hj : j < wNf ci ∧ wOff ci j = none) (hw : Cond.fieldLink own ix C (T j).2.1 (T j).2.2.1 ∈ lw_all) (hdg : decode cc pc = .ok (.getfield ix, 3))
    (kk : W p l e R s m args below meth c H locs cells slots Q (F0 m (pc + 3) ls (.int (I k j) :: rest))) : W p l e R s m args below meth c H locs cells slots Q (F0 m pc ls (.ref (b + k) :: rest)) := by
  obtain ⟨hx, hb, -, hown, hts⟩ := hX
  obtain ⟨h1, h2, rfl, h4, h5, h6⟩ := hc
  exact va_get hx hb hts h2 hown hK hH.1 k (wL_obj hs) h1 j hj.1 (hts _ hw) (fun x hx => by rw [h6 j hj.1] at hx; exact hx) (wF_int hj.1 hj.2) hdg kk
theorem w_getr (hX : CallFix p m c cc nL s args lw_all own) (hK : va_K D vwCl (wTys cs) s) (hH : wH D cs b G I s H locs) (hc : wCk ci C T N ty) (hs : wSh k = (0, ci)) (j o k' : Nat) (hj : j < wNf ci ∧ wOff ci j = some o) (hk' : k + o = k') (hw : Cond.fieldLink own ix C (T j).2.1 (T j).2.2.1 ∈ lw_all) (hdg : decode cc pc = .ok (.getfield ix, 3))
    (kk : W p l e R s m args below meth c H locs cells slots Q (F0 m (pc + 3) ls (.ref (b + k') :: rest))) : W p l e R s m args below meth c H locs cells slots Q (F0 m pc ls (.ref (b + k) :: rest)) := by
  subst hk'
  obtain ⟨hx, hb, -, hown, hts⟩ := hX
  obtain ⟨h1, h2, rfl, h4, h5, h6⟩ := hc
  exact va_get hx hb hts h2 hown hK hH.1 k (wL_obj hs) h1 j hj.1 (hts _ hw) (fun x hx => by rw [h6 j hj.1] at hx; exact hx) (wF_ref hj.1 hj.2) hdg kk
theorem w_getiN {host : String} (hX : CallFix p m c cc nL s args lw_all own) (hK : va_K D vwCl (wTys cs) s) (hE : wEn ad b s s.heap) (hH : wH D cs b G I s H locs) (hc : wCk ci C T N ty) (hs : wSh k = (0, ci)) (j : Nat) (hj : j < wNf ci ∧ wOff ci j = none) (hw : Cond.fieldLinkNest own ix C (T j).2.1 (T j).2.2.1 host ∈ lw_nw) (hdg : decode cc pc = .ok (.getfield ix, 3))
    (kk : W p l e R s m args below meth c H locs cells slots Q (F0 m (pc + 3) ls (.int (I k j) :: rest))) : W p l e R s m args below meth c H locs cells slots Q (F0 m pc ls (.ref (b + k) :: rest)) := by
  obtain ⟨hx, hb, -, hown, hts⟩ := hX
  obtain ⟨h1, h2, rfl, h4, h5, h6⟩ := hc
  exact va_getN hx hb hts h2 hown hK hH.1 k (wL_obj hs) h1 j hj.1 (va_Nw.use rfl (hE.1 _ hw)) (fun x hx => by rw [h6 j hj.1] at hx; exact hx) (wF_int hj.1 hj.2) hdg kk
theorem w_getrN {host : String} (hX : CallFix p m c cc nL s args lw_all own) (hK : va_K D vwCl (wTys cs) s) (hE : wEn ad b s s.heap) (hH : wH D cs b G I s H locs) (hc : wCk ci C T N ty) (hs : wSh k = (0, ci)) (j o k' : Nat) (hj : j < wNf ci ∧ wOff ci j = some o) (hk' : k + o = k') (hw : Cond.fieldLinkNest own ix C (T j).2.1 (T j).2.2.1 host ∈ lw_nw) (hdg : decode cc pc = .ok (.getfield ix, 3))
    (kk : W p l e R s m args below meth c H locs cells slots Q (F0 m (pc + 3) ls (.ref (b + k') :: rest))) : W p l e R s m args below meth c H locs cells slots Q (F0 m pc ls (.ref (b + k) :: rest)) := by
  subst hk'
  obtain ⟨hx, hb, -, hown, hts⟩ := hX
  obtain ⟨h1, h2, rfl, h4, h5, h6⟩ := hc
  exact va_getN hx hb hts h2 hown hK hH.1 k (wL_obj hs) h1 j hj.1 (va_Nw.use rfl (hE.1 _ hw)) (fun x hx => by rw [h6 j hj.1] at hx; exact hx) (wF_ref hj.1 hj.2) hdg kk
theorem w_nar01 {x : Int32} (h : x = 0 ∨ x = 1) : narrow .boolean (.int x) = .int x ∧ fits .boolean (.int x) = true := by
  rcases h with rfl | rfl <;> exact ⟨rfl, rfl⟩
theorem w_puti {x : Int32} (hX : CallFix p m c cc nL s args lw_all own) (hK : va_K D vwCl (wTys cs) s) (hH : wH D cs b G I s H locs) (hc : wCk ci C T N ty) (hs : wSh k = (0, ci)) (j : Nat) (hj : j < wNf ci ∧ wOff ci j = none ∧ (T j).2.2.2 = false ∧ ty j = .int) (hw : Cond.fieldLink own ix C (T j).2.1 (T j).2.2.1 ∈ lw_all) (hdg : decode cc pc = .ok (.putfield ix, 3))
    (kk : ∀ (I' : wI) (H : Heap) (locs : List Loc), I' = (wU I k j x) → wH D cs b G I' s H locs → W p l e R s m args below meth c H locs cells slots Q (F0 m (pc + 3) ls rest)) : W p l e R s m args below meth c H locs cells slots Q (F0 m pc ls (.int x :: .ref (b + k) :: rest)) := by
  obtain ⟨hx, hb, -, hown, hts⟩ := hX
  obtain ⟨h1, h2, rfl, h4, h5, h6⟩ := hc
  obtain ⟨j1, j2, j3, j4⟩ := hj
  refine va_put hx hb hts h2 ty h4 h5 hown hK hH.1 wLs_D hH.2 k (wL_obj hs) h1 j j1 (hts _ hw) (fun x hx => by rw [h6 j j1] at hx; exact hx) j3 (h4 j j1) (by rw [j4]; rfl) (by rw [j4]; rfl) (by simpa using j1) hdg (fun H1 locs1 hP _ hS => kk _ H1 locs1 rfl ⟨?_, hS⟩)
  rw [wLs_putO hs j1 j2] at hP
  exact hP
theorem w_putz {x : Int32} (h01 : x = 0 ∨ x = 1) (hX : CallFix p m c cc nL s args lw_all own) (hK : va_K D vwCl (wTys cs) s) (hH : wH D cs b G I s H locs) (hc : wCk ci C T N ty) (hs : wSh k = (0, ci)) (j : Nat) (hj : j < wNf ci ∧ wOff ci j = none ∧ (T j).2.2.2 = false ∧ ty j = .boolean) (hw : Cond.fieldLink own ix C (T j).2.1 (T j).2.2.1 ∈ lw_all) (hdg : decode cc pc = .ok (.putfield ix, 3))
    (kk : ∀ (I' : wI) (H : Heap) (locs : List Loc), I' = (wU I k j x) → wH D cs b G I' s H locs → W p l e R s m args below meth c H locs cells slots Q (F0 m (pc + 3) ls rest)) : W p l e R s m args below meth c H locs cells slots Q (F0 m pc ls (.int x :: .ref (b + k) :: rest)) := by
  obtain ⟨hx, hb, -, hown, hts⟩ := hX
  obtain ⟨h1, h2, rfl, h4, h5, h6⟩ := hc
  obtain ⟨j1, j2, j3, j4⟩ := hj
  refine va_put hx hb hts h2 ty h4 h5 hown hK hH.1 wLs_D hH.2 k (wL_obj hs) h1 j j1 (hts _ hw) (fun x hx => by rw [h6 j j1] at hx; exact hx) j3 (h4 j j1) (by rw [j4]; exact (w_nar01 h01).1) (by rw [j4]; exact (w_nar01 h01).2) (by simpa using j1) hdg (fun H1 locs1 hP _ hS => kk _ H1 locs1 rfl ⟨?_, hS⟩)
  rw [wLs_putO hs j1 j2] at hP
  exact hP
theorem w_putiN {host : String} {x : Int32} (hX : CallFix p m c cc nL s args lw_all own) (hK : va_K D vwCl (wTys cs) s) (hE : wEn ad b s s.heap) (hH : wH D cs b G I s H locs) (hc : wCk ci C T N ty) (hs : wSh k = (0, ci)) (j : Nat) (hj : j < wNf ci ∧ wOff ci j = none ∧ (T j).2.2.2 = false ∧ ty j = .int) (hw : Cond.fieldLinkNest own ix C (T j).2.1 (T j).2.2.1 host ∈ lw_nw) (hdg : decode cc pc = .ok (.putfield ix, 3))
    (kk : ∀ (I' : wI) (H : Heap) (locs : List Loc), I' = (wU I k j x) → wH D cs b G I' s H locs → W p l e R s m args below meth c H locs cells slots Q (F0 m (pc + 3) ls rest)) : W p l e R s m args below meth c H locs cells slots Q (F0 m pc ls (.int x :: .ref (b + k) :: rest)) := by
  obtain ⟨hx, hb, -, hown, hts⟩ := hX
  obtain ⟨h1, h2, rfl, h4, h5, h6⟩ := hc
  obtain ⟨j1, j2, j3, j4⟩ := hj
  refine va_putN hx hb hts h2 ty h4 h5 hown hK hH.1 wLs_D hH.2 k (wL_obj hs) h1 j j1 (va_Nw.use rfl (hE.1 _ hw)) (fun x hx => by rw [h6 j j1] at hx; exact hx) j3 (h4 j j1) (by rw [j4]; rfl) (by rw [j4]; rfl) (by simpa using j1) hdg (fun H1 locs1 hP _ hS => kk _ H1 locs1 rfl ⟨?_, hS⟩)
  rw [wLs_putO hs j1 j2] at hP
  exact hP
theorem w_putzN {host : String} {x : Int32} (h01 : x = 0 ∨ x = 1) (hX : CallFix p m c cc nL s args lw_all own) (hK : va_K D vwCl (wTys cs) s) (hE : wEn ad b s s.heap) (hH : wH D cs b G I s H locs) (hc : wCk ci C T N ty) (hs : wSh k = (0, ci)) (j : Nat) (hj : j < wNf ci ∧ wOff ci j = none ∧ (T j).2.2.2 = false ∧ ty j = .boolean) (hw : Cond.fieldLinkNest own ix C (T j).2.1 (T j).2.2.1 host ∈ lw_nw) (hdg : decode cc pc = .ok (.putfield ix, 3))
    (kk : ∀ (I' : wI) (H : Heap) (locs : List Loc), I' = (wU I k j x) → wH D cs b G I' s H locs → W p l e R s m args below meth c H locs cells slots Q (F0 m (pc + 3) ls rest)) : W p l e R s m args below meth c H locs cells slots Q (F0 m pc ls (.int x :: .ref (b + k) :: rest)) := by
  obtain ⟨hx, hb, -, hown, hts⟩ := hX
  obtain ⟨h1, h2, rfl, h4, h5, h6⟩ := hc
  obtain ⟨j1, j2, j3, j4⟩ := hj
  refine va_putN hx hb hts h2 ty h4 h5 hown hK hH.1 wLs_D hH.2 k (wL_obj hs) h1 j j1 (va_Nw.use rfl (hE.1 _ hw)) (fun x hx => by rw [h6 j j1] at hx; exact hx) j3 (h4 j j1) (by rw [j4]; exact (w_nar01 h01).1) (by rw [j4]; exact (w_nar01 h01).2) (by simpa using j1) hdg (fun H1 locs1 hP _ hS => kk _ H1 locs1 rfl ⟨?_, hS⟩)
  rw [wLs_putO hs j1 j2] at hP
  exact hP
theorem w_iald {n : Nat} {i : Int32} (hX : CallFix p m c cc nL s args lw_all own) (hK : va_K D vwCl (wTys cs) s) (hH : wH D cs b G I s H locs) (hs : wSh k = (1, n)) (hin : vp_in i n) (hdg : decode cc pc = .ok (.iaload, 1))
    (kk : W p l e R s m args below meth c H locs cells slots Q (F0 m (pc + 1) ls (.int (I k i.toNatClampNeg) :: rest))) : W p l e R s m args below meth c H locs cells slots Q (F0 m pc ls (.int i :: .ref (b + k) :: rest)) :=
  va_iald hX.1 hX.2.1 hK hH.1 k 0 (wL_ints hs) rfl hin hdg kk
theorem w_cald {n : Nat} {i : Int32} (hX : CallFix p m c cc nL s args lw_all own) (hK : va_K D vwCl (wTys cs) s) (hH : wH D cs b G I s H locs) (hs : wSh k = (2, n)) (hin : vp_in i n) (hdg : decode cc pc = .ok (.caload, 1))
    (kk : W p l e R s m args below meth c H locs cells slots Q (F0 m (pc + 1) ls (.int (I k i.toNatClampNeg) :: rest))) : W p l e R s m args below meth c H locs cells slots Q (F0 m pc ls (.int i :: .ref (b + k) :: rest)) :=
  va_cald hX.1 hX.2.1 hK hH.1 k 1 (wL_chars hs) rfl hin hdg kk
theorem w_aald {n : Nat} {i : Int32} (hX : CallFix p m c cc nL s args lw_all own) (hK : va_K D vwCl (wTys cs) s) (hH : wH D cs b G I s H locs) (hs : wSh k = (3, n)) (hin : vp_in i n) (hdg : decode cc pc = .ok (.aaload, 1))
    (kk : W p l e R s m args below meth c H locs cells slots Q (F0 m (pc + 1) ls (.ref (b + wSv (I k i.toNatClampNeg)) :: rest))) : W p l e R s m args below meth c H locs cells slots Q (F0 m pc ls (.int i :: .ref (b + k) :: rest)) :=
  va_aldq hX.1 hX.2.1 hK hH.1 k 2 (wL_states hs) rfl hin hdg kk
theorem w_lald (hX : CallFix p m c cc nL s args lw_all own) (hK : va_K D vwCl (wTys cs) s) (hH : wH D cs b G I s H locs) (hdg : decode cc pc = .ok (.laload, 1))
    (kk : W p l e R s m args below meth c H locs cells slots Q (F0 m (pc + 1) ls (.long (G 0) :: rest))) : W p l e R s m args below meth c H locs cells slots Q (F0 m pc ls (.int 0 :: .ref (b + 124) :: rest)) :=
  va_lald (i := 0) hX.1 hX.2.1 hK hH.1 124 3 wL_long rfl (by unfold vp_in; decide) hdg kk
theorem w_iast {n : Nat} {i x : Int32} (hX : CallFix p m c cc nL s args lw_all own) (hK : va_K D vwCl (wTys cs) s) (hH : wH D cs b G I s H locs) (hs : wSh k = (1, n)) (hin : vp_in i n) (hdg : decode cc pc = .ok (.iastore, 1))
    (kk : ∀ (I' : wI) (H : Heap) (locs : List Loc), I' = (wU I k i.toNatClampNeg x) → wH D cs b G I' s H locs → W p l e R s m args below meth c H locs cells slots Q (F0 m (pc + 1) ls rest)) : W p l e R s m args below meth c H locs cells slots Q (F0 m pc ls (.int x :: .int i :: .ref (b + k) :: rest)) := by
  refine va_iast hX.1 hX.2.1 hK hH.1 wLs_D hH.2 k 0 (wL_ints hs) rfl hin hdg (fun H1 locs1 hP _ hS => kk _ H1 locs1 rfl ⟨?_, hS⟩)
  rw [wLs_putI hs] at hP
  exact hP
theorem w_cast {n : Nat} {i x : Int32} (hX : CallFix p m c cc nL s args lw_all own) (hK : va_K D vwCl (wTys cs) s) (hH : wH D cs b G I s H locs) (hs : wSh k = (2, n)) (hin : vp_in i n) (hdg : decode cc pc = .ok (.castore, 1))
    (kk : ∀ (I' : wI) (H : Heap) (locs : List Loc), I' = (wU I k i.toNatClampNeg (vp_nar .char x)) → wH D cs b G I' s H locs → W p l e R s m args below meth c H locs cells slots Q (F0 m (pc + 1) ls rest)) : W p l e R s m args below meth c H locs cells slots Q (F0 m pc ls (.int x :: .int i :: .ref (b + k) :: rest)) := by
  refine va_cast hX.1 hX.2.1 hK hH.1 wLs_D hH.2 k 1 (wL_chars hs) rfl hin hdg (fun H1 locs1 hP _ hS => kk _ H1 locs1 rfl ⟨?_, hS⟩)
  rw [wLs_putC hs] at hP
  exact hP
theorem w_aast {n : Nat} {i x : Int32} (hX : CallFix p m c cc nL s args lw_all own) (hK : va_K D vwCl (wTys cs) s) (hH : wH D cs b G I s H locs) (hs : wSh k = (3, n)) (hin : vp_in i n) (hx : wSh (wSv x) = (0, 3)) (hdg : decode cc pc = .ok (.aastore, 1))
    (kk : ∀ (I' : wI) (H : Heap) (locs : List Loc), I' = (wU I k i.toNatClampNeg x) → wH D cs b G I' s H locs → W p l e R s m args below meth c H locs cells slots Q (F0 m (pc + 1) ls rest)) : W p l e R s m args below meth c H locs cells slots Q (F0 m pc ls (.ref (b + wSv x) :: .int i :: .ref (b + k) :: rest)) := by
  refine va_astq hX.1 hX.2.1 hK hH.1 wLs_D hH.2 k 2 (wSv x) 3 (r := (RX3, TX3, 9)) (wL_states hs) rfl (wL_obj hx) rfl hin hdg (fun H1 locs1 hP _ hS => kk _ H1 locs1 rfl ⟨?_, hS⟩)
  rw [wLs_putS hs] at hP
  exact hP
theorem w_last {x : Int64} (hX : CallFix p m c cc nL s args lw_all own) (hK : va_K D vwCl (wTys cs) s) (hH : wH D cs b G I s H locs) (hdg : decode cc pc = .ok (.lastore, 1))
    (kk : ∀ (H : Heap) (locs : List Loc), wH D cs b (vp_updL G 0 x) I s H locs → W p l e R s m args below meth c H locs cells slots Q (F0 m (pc + 1) ls rest)) : W p l e R s m args below meth c H locs cells slots Q (F0 m pc ls (.long x :: .int 0 :: .ref (b + 124) :: rest)) := by
  refine va_last (i := 0) hX.1 hX.2.1 hK hH.1 wLs_D hH.2 124 3 wL_long rfl (by unfold vp_in; decide) hdg (fun H1 locs1 hP _ hS => kk H1 locs1 ⟨?_, hS⟩)
  rw [wLs_putL] at hP
  exact hP
theorem w_alen {n : Nat} {v : Int32} (hX : CallFix p m c cc nL s args lw_all own) (hK : va_K D vwCl (wTys cs) s) (hH : wH D cs b G I s H locs) (hs : wSh k = (1, n)) (hv : Int32.ofNat n = v) (hdg : decode cc pc = .ok (.arraylength, 1))
    (kk : W p l e R s m args below meth c H locs cells slots Q (F0 m (pc + 1) ls (.int v :: rest))) : W p l e R s m args below meth c H locs cells slots Q (F0 m pc ls (.ref (b + k) :: rest)) :=
  va_alen hX.1 hX.2.1 hK hH.1 k 0 (wL_ints hs) rfl hv hdg kk
end WROWS
end
section
/-! ===== a method's entry, its ends, its calls: over the world ===== -/
def ws_ (y : MethodName) (cc : ByteArray) (n : Nat) (ret : Option FieldType) : List Cond := .code y cc n ret :: lw_all
theorem ws_ts {y : MethodName} {cc : ByteArray} {n : Nat} {ret : Option FieldType} {args : Array Value} {s : State} (h : ∀ w ∈ ws_ y cc n ret, w.before args s = true) : ∀ w ∈ lw_all, w.before args s = true := fun w hw => h w (List.mem_cons_of_mem _ hw)
theorem lw_G {w : Cond} (h : w ∈ lw_all) : (w.onTables && w.keeps) = true ∨ ∃ ty, w = .arrayClass ty := good_of_word (lw_all_good h)
theorem ws_good {y : MethodName} {cc : ByteArray} {n : Nat} {ret : Option FieldType} (h : Cond.code y cc n ret ∈ lw_all) : GoodIn lw_all (ws_ y cc n ret) := fun w hw => (List.mem_cons.mp hw).elim (fun e => by rw [e]; exact ⟨h, lw_G h⟩) (fun e => ⟨e, lw_G e⟩)
section WCALLS
variable {p : Program} {l : Launch} {e : Env} {R : Room} {s : State} {m : MethodId} {args : Array Value} {below : List Frame} {meth : Method} {c : Code} {H : Heap} {locs : List Loc} {cells slots : Nat} {Q : State → Prop}
variable {cc bytes : ByteArray} {nL pc : Nat} {ls : Array Slot} {rest st0 : List Value} {own : String} {D : va_G} {cs : wC4} {ad : Nat → Nat} {b : Nat} {G : wG} {I I' : wI}
variable {ci : Nat} {C : String} {T : u_T} {N : Nat} {ty : Nat → FieldType} {k : Nat} {ix : Nat}
variable {y : MethodName} {maxL n mc ms : Nat} {ret : Option FieldType} {rm : Room} {av As : List Value} {Qc : Array Value → State → Outcome → State → Prop} {a : Array Value}
theorem w_met (hy : plainName y.cls = true) (hlen : (lg_sl av).length ≤ nL)
    (body : ∀ (p : Program) (e : Env) (s : State) (m : MethodId) (below : List Frame) (meth : Method) (c : Code), CallFix p m c cc nL s av.toArray lw_all y.cls → meth.sig.returnType = ret → meth.locks = false → va_K D vwCl (wTys cs) s → wEn ad b s s.heap → wH D cs b G I s s.heap [] →
      ∀ ls : Array Slot, lv_has ls nL (lv_args 0 av) → W p l e rm s m av.toArray below meth c s.heap [] 0 0 (MQ below Qc av.toArray s mc ms (fun q => b ≤ q)) (F0 m 0 ls [])) :
    Met l y (ws_ y cc nL ret) rm (va_Pc av (wPr D cs ad b G I)) Qc mc ms (fun q => b ≤ q) := by
  refine Met.ofW (cc := cc) (maxL := nL) (ret := ret) hy rfl ?_
  intro p e s m args below meth c s₁ B hml hv
  obtain ⟨rfl, hK, hE, hP⟩ := hv
  have hl := lv_entry av (n := nL) hlen
  rw [lg_entry_eq]
  exact body p e s m below meth c ⟨B.exec, B.bytes, hml, findClass_of_methodNamed B.named, ws_ts (atoms_spec (ws := ws_ y cc nL ret) B.pre)⟩ B.returns B.notSynchronized hK hE ⟨hP, va_S.rf⟩ _ hl
theorem w_eI {v : Int32} {post : Int32 → wI → Prop} (hX : CallFix p m c cc nL s args lw_all own) (hr : meth.sig.returnType = some .int) (hlk : meth.locks = false) (hH : wH D cs b G I' s H locs) (hp : post v I') (hdg : decode cc pc = .ok (.ireturn, 1)) :
    W p l e R s m args below meth c H locs cells slots (MQ below (va_Qi post (wPo D cs b G) (fun q => b ≤ q)) args s cells slots (fun q => b ≤ q)) (F0 m pc ls [.int v]) :=
  W.iret hX.1 hX.2.1 hr (fun t ht hW => ⟨⟨v, I', rfl, hp, by unfold wPo; rw [ht]; exact hH.1⟩, hH.2.F ht⟩) hH.2.2.2 hdg hlk
theorem w_eZ {v : Int32} {post : Int32 → wI → Prop} (h01 : v = 0 ∨ v = 1) (hX : CallFix p m c cc nL s args lw_all own) (hr : meth.sig.returnType = some .boolean) (hlk : meth.locks = false) (hH : wH D cs b G I' s H locs) (hp : post v I') (hdg : decode cc pc = .ok (.ireturn, 1)) :
    W p l e R s m args below meth c H locs cells slots (MQ below (va_Qi post (wPo D cs b G) (fun q => b ≤ q)) args s cells slots (fun q => b ≤ q)) (F0 m pc ls [.int v]) :=
  W.zret hX.1 hX.2.1 hr (w_nar01 h01).1 (fun t ht hW => ⟨⟨v, I', rfl, hp, by unfold wPo; rw [ht]; exact hH.1⟩, hH.2.F ht⟩) hH.2.2.2 hdg hlk
theorem w_eC {v : Int32} {post : Int32 → wI → Prop} (hnar : narrow .char (.int v) = .int v) (hX : CallFix p m c cc nL s args lw_all own) (hr : meth.sig.returnType = some .char) (hlk : meth.locks = false) (hH : wH D cs b G I' s H locs) (hp : post v I') (hdg : decode cc pc = .ok (.ireturn, 1)) :
    W p l e R s m args below meth c H locs cells slots (MQ below (va_Qi post (wPo D cs b G) (fun q => b ≤ q)) args s cells slots (fun q => b ≤ q)) (F0 m pc ls [.int v]) :=
  W.zret hX.1 hX.2.1 hr hnar (fun t ht hW => ⟨⟨v, I', rfl, hp, by unfold wPo; rw [ht]; exact hH.1⟩, hH.2.F ht⟩) hH.2.2.2 hdg hlk
theorem w_eL {v : Int64} {post : Int64 → wI → Prop} (hX : CallFix p m c cc nL s args lw_all own) (hr : meth.sig.returnType = some .long) (hlk : meth.locks = false) (hH : wH D cs b G I' s H locs) (hp : post v I') (hdg : decode cc pc = .ok (.lreturn, 1)) :
    W p l e R s m args below meth c H locs cells slots (MQ below (va_Ql post (wPo D cs b G) (fun q => b ≤ q)) args s cells slots (fun q => b ≤ q)) (F0 m pc ls [.long v]) :=
  W.lret hX.1 hX.2.1 hr (fun t ht hW => ⟨⟨v, I', rfl, hp, by unfold wPo; rw [ht]; exact hH.1⟩, hH.2.F ht⟩) hH.2.2.2 hdg hlk
theorem w_eF {v : UInt32} {post : UInt32 → wI → Prop} (hX : CallFix p m c cc nL s args lw_all own) (hr : meth.sig.returnType = some .float) (hlk : meth.locks = false) (hH : wH D cs b G I' s H locs) (hp : post v I') (hdg : decode cc pc = .ok (.freturn, 1)) :
    W p l e R s m args below meth c H locs cells slots (MQ below (va_Qf post (wPo D cs b G) (fun q => b ≤ q)) args s cells slots (fun q => b ≤ q)) (F0 m pc ls [.float v]) :=
  W.fret hX.1 hX.2.1 hr (fun t ht hW => ⟨⟨v, I', rfl, hp, by unfold wPo; rw [ht]; exact hH.1⟩, hH.2.F ht⟩) hH.2.2.2 hdg hlk
theorem w_eD {v : UInt64} {post : UInt64 → wI → Prop} (hX : CallFix p m c cc nL s args lw_all own) (hr : meth.sig.returnType = some .double) (hlk : meth.locks = false) (hH : wH D cs b G I' s H locs) (hp : post v I') (hdg : decode cc pc = .ok (.dreturn, 1)) :
    W p l e R s m args below meth c H locs cells slots (MQ below (va_Qd post (wPo D cs b G) (fun q => b ≤ q)) args s cells slots (fun q => b ≤ q)) (F0 m pc ls [.double v]) :=
  W.dret hX.1 hX.2.1 hr (fun t ht hW => ⟨⟨v, I', rfl, hp, by unfold wPo; rw [ht]; exact hH.1⟩, hH.2.F ht⟩) hH.2.2.2 hdg hlk
theorem w_eV {post : wI → Prop} (hX : CallFix p m c cc nL s args lw_all own) (hr : meth.sig.returnType = none) (hlk : meth.locks = false) (hH : wH D cs b G I' s H locs) (hp : post I') (hdg : decode cc pc = .ok (.return_, 1)) :
    W p l e R s m args below meth c H locs cells slots (MQ below (va_Qv post (wPo D cs b G) (fun q => b ≤ q)) args s cells slots (fun q => b ≤ q)) (F0 m pc ls []) :=
  W.vret hX.1 hX.2.1 hr (fun t ht hW => ⟨⟨I', rfl, hp, by unfold wPo; rw [ht]; exact hH.1⟩, hH.2.F ht⟩) hH.2.2.2 hdg hlk
/-- the callee's receiver and start -/
theorem w_preV (hK : va_K D vwCl (wTys cs) s) (hE : wEn ad b s s.heap) (hH : wH D cs b G I s H locs) (hc : wCk ci C T N ty) (hs : wSh k = (0, ci)) : PreV s H C (b + k) (va_Pc (.ref (b + k) :: As) (wPr D cs ad b G I)) As :=
  ⟨wPr_blind, va_recv hK hH.1 hc.1 (wL_obj hs), wPr_of hK hE hH⟩
theorem w_preS (hK : va_K D vwCl (wTys cs) s) (hE : wEn ad b s s.heap) (hH : wH D cs b G I s H locs) : PreS s H (va_Pc As (wPr D cs ad b G I)) As := ⟨wPr_blind, wPr_of hK hE hH⟩
theorem w_rV (hX : CallFix p m c cc nL s args lw_all own) (hK : va_K D vwCl (wTys cs) s) (hE : wEn ad b s s.heap) (hH : wH D cs b G I s H locs) (hM : Met l y (ws_ y bytes maxL ret) rm (va_Pc (.ref (b + k) :: As) (wPr D cs ad b G I)) Qc mc ms (fun q => b ≤ q)) (hc : wCk ci C T N ty) (hs : wSh k = (0, ci))
    (q1 : Cond.methodLink own ix y ∈ lw_all) (q2 : Cond.instanceMethod y ∈ lw_all) (q3 : Cond.selects C y y ∈ lw_all) (q4 : Cond.initialized C ∈ lw_all) (q5 : Cond.code y bytes maxL ret ∈ lw_all)
    (hd : y.cls = C ∧ y.cls ≠ "java/lang/invoke/MethodHandle" ∧ y.cls ≠ "java/lang/invoke/VarHandle" ∧ (parseMethodDescriptor y.desc).map (fun d => d.parameters.length) = some n) (hR : rm.frames + 1 ≤ R.frames ∧ 8 + (maxL + 11) + rm.locals ≤ R.locals) (hrm : rm.cells = mc ∧ rm.slots = ms) (hn : As.length = n) (hls : ls.size = nL) (hst0 : st0 = As.reverse ++ .ref (b + k) :: rest) (hst : (rest.map fun v => v.category).sum ≤ 8) (hdg : decode cc pc = .ok (.invokevirtual ix, 3)) (hf : cells + mc ≤ R.cells ∧ slots + ms ≤ R.slots) :
    va_Run p l e R s m args below meth c H locs cells slots mc ms (F0 m pc ls st0) rest (Qc (Value.ref (b + k) :: As).toArray) (fun q => b ≤ q) :=
  va_runV (As := As) (rest := rest) hX hM (cwV n hX.2.2.2.2 (fun w hw => by
    rcases List.mem_append.mp hw with h | h
    · have : w = .methodLink own ix y ∨ w = .instanceMethod y ∨ w = .selects C y y ∨ w = .initialized C := by simpa using h
      rcases this with rfl | rfl | rfl | rfl
      · exact ⟨q1, lw_G q1⟩
      · exact ⟨q2, lw_G q2⟩
      · exact ⟨q3, lw_G q3⟩
      · exact ⟨q4, lw_G q4⟩
    · exact ws_good q5 w h) rfl hrm.1 hrm.2 hd hR) (w_preV hK hE hH hc hs) rfl hn hls hst0 (lv_room hst) hdg hf
theorem w_rS (hX : CallFix p m c cc nL s args lw_all own) (hK : va_K D vwCl (wTys cs) s) (hE : wEn ad b s s.heap) (hH : wH D cs b G I s H locs) (hM : Met l y (ws_ y bytes maxL ret) rm (va_Pc As (wPr D cs ad b G I)) Qc mc ms (fun q => b ≤ q))
    (q1 : Cond.methodLink own ix y ∈ lw_all) (q2 : Cond.static y ∈ lw_all) (q4 : Cond.initialized y.cls ∈ lw_all) (q5 : Cond.code y bytes maxL ret ∈ lw_all)
    (hd : y.cls ≠ "java/lang/invoke/MethodHandle" ∧ y.cls ≠ "java/lang/invoke/VarHandle" ∧ (parseMethodDescriptor y.desc).map (fun d => d.parameters.length) = some n) (hR : rm.frames + 1 ≤ R.frames ∧ 8 + (maxL + 11) + rm.locals ≤ R.locals) (hrm : rm.cells = mc ∧ rm.slots = ms) (hn : As.length = n) (hls : ls.size = nL) (hst0 : st0 = As.reverse ++ rest) (hst : (rest.map fun v => v.category).sum ≤ 8) (hdg : decode cc pc = .ok (.invokestatic ix, 3)) (hf : cells + mc ≤ R.cells ∧ slots + ms ≤ R.slots) :
    va_Run p l e R s m args below meth c H locs cells slots mc ms (F0 m pc ls st0) rest (Qc As.toArray) (fun q => b ≤ q) :=
  va_runS (As := As) (rest := rest) hX hM ⟨callB_of n hX.2.2.2.2 (ws_good q5) rfl hrm.1 hrm.2 (hX.2.2.2.2 _ q4) (hX.2.2.2.2 _ q1) hd hR, hX.2.2.2.2 _ q2⟩ (w_preS hK hE hH) rfl hn hls hst0 (lv_room hst) hdg hf
theorem w_rSN {host : String} (hX : CallFix p m c cc nL s args lw_all own) (hK : va_K D vwCl (wTys cs) s) (hE : wEn ad b s s.heap) (hH : wH D cs b G I s H locs) (hM : Met l y (ws_ y bytes maxL ret) rm (va_Pc As (wPr D cs ad b G I)) Qc mc ms (fun q => b ≤ q))
    (q1 : Cond.methodLinkNest own ix y host ∈ lw_nw) (q2 : Cond.static y ∈ lw_all) (q4 : Cond.initialized y.cls ∈ lw_all) (q5 : Cond.code y bytes maxL ret ∈ lw_all)
    (hd : y.cls ≠ "java/lang/invoke/MethodHandle" ∧ y.cls ≠ "java/lang/invoke/VarHandle" ∧ (parseMethodDescriptor y.desc).map (fun d => d.parameters.length) = some n) (hR : rm.frames + 1 ≤ R.frames ∧ 8 + (maxL + 11) + rm.locals ≤ R.locals) (hrm : rm.cells = mc ∧ rm.slots = ms) (hn : As.length = n) (hls : ls.size = nL) (hst0 : st0 = As.reverse ++ rest) (hst : (rest.map fun v => v.category).sum ≤ 8) (hdg : decode cc pc = .ok (.invokestatic ix, 3)) (hf : cells + mc ≤ R.cells ∧ slots + ms ≤ R.slots) :
    va_Run p l e R s m args below meth c H locs cells slots mc ms (F0 m pc ls st0) rest (Qc As.toArray) (fun q => b ≤ q) :=
  va_runSN (As := As) (rest := rest) hX hM ⟨va_cnB n hX.2.2.2.2 (ws_good q5) rfl hrm.1 hrm.2 (hE.1 _ q1) (hX.2.2.2.2 _ q4) hd hR, hX.2.2.2.2 _ q2, trivial⟩ (w_preS hK hE hH) rfl hn hls hst0 (lv_room hst) hdg hf
theorem w_cI {post : Int32 → wI → Prop} (hH : wH D cs b G I s H locs) (hr : va_Run p l e R s m args below meth c H locs cells slots 0 0 (F0 m pc ls st0) rest (va_Qi post (wPo D cs b G) (fun q => b ≤ q) a) (fun q => b ≤ q))
    (kk : ∀ (r : Int32) (I' : wI) (H : Heap) (locs : List Loc), post r I' → wH D cs b G I' s H locs → W p l e R s m args below meth c H locs cells slots Q (F0 m (pc + 3) ls (.int r :: rest))) : W p l e R s m args below meth c H locs cells slots Q (F0 m pc ls st0) :=
  va_calli hr hH.2 (fun q _ h => h) (fun q h => h) (fun r u t H1 locs1 ht _ hp hB _ _ hS => kk r u H1 locs1 hp ⟨by rw [← ht]; exact hB, hS⟩)
theorem w_cL {post : Int64 → wI → Prop} (hH : wH D cs b G I s H locs) (hr : va_Run p l e R s m args below meth c H locs cells slots 0 0 (F0 m pc ls st0) rest (va_Ql post (wPo D cs b G) (fun q => b ≤ q) a) (fun q => b ≤ q))
    (kk : ∀ (r : Int64) (I' : wI) (H : Heap) (locs : List Loc), post r I' → wH D cs b G I' s H locs → W p l e R s m args below meth c H locs cells slots Q (F0 m (pc + 3) ls (.long r :: rest))) : W p l e R s m args below meth c H locs cells slots Q (F0 m pc ls st0) :=
  va_calll hr hH.2 (fun q _ h => h) (fun q h => h) (fun r u t H1 locs1 ht _ hp hB _ _ hS => kk r u H1 locs1 hp ⟨by rw [← ht]; exact hB, hS⟩)
theorem w_cF {post : UInt32 → wI → Prop} (hH : wH D cs b G I s H locs) (hr : va_Run p l e R s m args below meth c H locs cells slots 0 0 (F0 m pc ls st0) rest (va_Qf post (wPo D cs b G) (fun q => b ≤ q) a) (fun q => b ≤ q))
    (kk : ∀ (r : UInt32) (I' : wI) (H : Heap) (locs : List Loc), post r I' → wH D cs b G I' s H locs → W p l e R s m args below meth c H locs cells slots Q (F0 m (pc + 3) ls (.float r :: rest))) : W p l e R s m args below meth c H locs cells slots Q (F0 m pc ls st0) :=
  va_callf hr hH.2 (fun q _ h => h) (fun q h => h) (fun r u t H1 locs1 ht _ hp hB _ _ hS => kk r u H1 locs1 hp ⟨by rw [← ht]; exact hB, hS⟩)
theorem w_cD {post : UInt64 → wI → Prop} (hH : wH D cs b G I s H locs) (hr : va_Run p l e R s m args below meth c H locs cells slots 0 0 (F0 m pc ls st0) rest (va_Qd post (wPo D cs b G) (fun q => b ≤ q) a) (fun q => b ≤ q))
    (kk : ∀ (r : UInt64) (I' : wI) (H : Heap) (locs : List Loc), post r I' → wH D cs b G I' s H locs → W p l e R s m args below meth c H locs cells slots Q (F0 m (pc + 3) ls (.double r :: rest))) : W p l e R s m args below meth c H locs cells slots Q (F0 m pc ls st0) :=
  va_calld hr hH.2 (fun q _ h => h) (fun q h => h) (fun r u t H1 locs1 ht _ hp hB _ _ hS => kk r u H1 locs1 hp ⟨by rw [← ht]; exact hB, hS⟩)
theorem w_cV {post : wI → Prop} (hH : wH D cs b G I s H locs) (hr : va_Run p l e R s m args below meth c H locs cells slots 0 0 (F0 m pc ls st0) rest (va_Qv post (wPo D cs b G) (fun q => b ≤ q) a) (fun q => b ≤ q))
    (kk : ∀ (I' : wI) (H : Heap) (locs : List Loc), post I' → wH D cs b G I' s H locs → W p l e R s m args below meth c H locs cells slots Q (F0 m (pc + 3) ls rest)) : W p l e R s m args below meth c H locs cells slots Q (F0 m pc ls st0) :=
  va_callv hr hH.2 (fun q _ h => h) (fun q h => h) (fun u t H1 locs1 ht _ hp hB _ _ hS => kk u H1 locs1 hp ⟨by rw [← ht]; exact hB, hS⟩)
theorem w_cIp {post : Int32 → Prop} (hH : wH D cs b G I s H locs) (hr : va_Run p l e R s m args below meth c H locs cells slots 0 0 (F0 m pc ls st0) rest (va_Qi (fun r I' => I' = I ∧ post r) (wPo D cs b G) (fun q => b ≤ q) a) (fun q => b ≤ q))
    (kk : ∀ (r : Int32) (H : Heap) (locs : List Loc), post r → wH D cs b G I s H locs → W p l e R s m args below meth c H locs cells slots Q (F0 m (pc + 3) ls (.int r :: rest))) : W p l e R s m args below meth c H locs cells slots Q (F0 m pc ls st0) :=
  w_cI hH hr (fun r I' H locs hp hH => kk r H locs hp.2 (by rw [← hp.1]; exact hH))
theorem w_cLp {post : Int64 → Prop} (hH : wH D cs b G I s H locs) (hr : va_Run p l e R s m args below meth c H locs cells slots 0 0 (F0 m pc ls st0) rest (va_Ql (fun r I' => I' = I ∧ post r) (wPo D cs b G) (fun q => b ≤ q) a) (fun q => b ≤ q))
    (kk : ∀ (r : Int64) (H : Heap) (locs : List Loc), post r → wH D cs b G I s H locs → W p l e R s m args below meth c H locs cells slots Q (F0 m (pc + 3) ls (.long r :: rest))) : W p l e R s m args below meth c H locs cells slots Q (F0 m pc ls st0) :=
  w_cL hH hr (fun r I' H locs hp hH => kk r H locs hp.2 (by rw [← hp.1]; exact hH))
theorem w_cFp {post : UInt32 → Prop} (hH : wH D cs b G I s H locs) (hr : va_Run p l e R s m args below meth c H locs cells slots 0 0 (F0 m pc ls st0) rest (va_Qf (fun r I' => I' = I ∧ post r) (wPo D cs b G) (fun q => b ≤ q) a) (fun q => b ≤ q))
    (kk : ∀ (r : UInt32) (H : Heap) (locs : List Loc), post r → wH D cs b G I s H locs → W p l e R s m args below meth c H locs cells slots Q (F0 m (pc + 3) ls (.float r :: rest))) : W p l e R s m args below meth c H locs cells slots Q (F0 m pc ls st0) :=
  w_cF hH hr (fun r I' H locs hp hH => kk r H locs hp.2 (by rw [← hp.1]; exact hH))
theorem w_cDp {post : UInt64 → Prop} (hH : wH D cs b G I s H locs) (hr : va_Run p l e R s m args below meth c H locs cells slots 0 0 (F0 m pc ls st0) rest (va_Qd (fun r I' => I' = I ∧ post r) (wPo D cs b G) (fun q => b ≤ q) a) (fun q => b ≤ q))
    (kk : ∀ (r : UInt64) (H : Heap) (locs : List Loc), post r → wH D cs b G I s H locs → W p l e R s m args below meth c H locs cells slots Q (F0 m (pc + 3) ls (.double r :: rest))) : W p l e R s m args below meth c H locs cells slots Q (F0 m pc ls st0) :=
  w_cD hH hr (fun r I' H locs hp hH => kk r H locs hp.2 (by rw [← hp.1]; exact hH))
theorem w_cVp {post : Prop} (hH : wH D cs b G I s H locs) (hr : va_Run p l e R s m args below meth c H locs cells slots 0 0 (F0 m pc ls st0) rest (va_Qv (fun I' => I' = I ∧ post) (wPo D cs b G) (fun q => b ≤ q) a) (fun q => b ≤ q))
    (kk : ∀ (H : Heap) (locs : List Loc), post → wH D cs b G I s H locs → W p l e R s m args below meth c H locs cells slots Q (F0 m (pc + 3) ls rest)) : W p l e R s m args below meth c H locs cells slots Q (F0 m pc ls st0) :=
  w_cV hH hr (fun I' H locs hp hH => kk H locs hp.2 (by rw [← hp.1]; exact hH))
end WCALLS
/-! ===== the shapes behind the fields ===== -/
theorem w_all {P : Nat → Prop} (h : ∀ k, k < 125 → P k) {k : Nat} {x : Nat × Nat} (hs : wSh k = x) (hx : x.1 < 9) : P k := h k (wSh_lt hs hx)
theorem sh0 : wSh 0 = (0, 5) := rfl
theorem sh111 : wSh 111 = (0, 6) := rfl
theorem sh124 : wSh 124 = (4, 1) := rfl
theorem wSv_lt : ∀ t, t < 6 → wSh (45 + 11 * t) = (0, 3) := by decide +kernel
theorem wSv_sh {x : Int32} (h : x.toNatClampNeg < 6) : wSh (wSv x) = (0, 3) := wSv_lt _ h
/-- a switch's other numbers -/
theorem w_toInt_ne {x : Int32} {n : Int32} (h : ¬ x = n) : x.toInt ≠ n.toInt := fun e => h (Int32.toInt_inj.mp e)
theorem sf0_0 {k : Nat} (hs : wSh k = (0, 0)) : wSh (k + 1) = (1, 6) := w_all (P := fun k => wSh k = (0, 0) → wSh (k + 1) = (1, 6)) (by decide +kernel) hs (Nat.le_of_ble_eq_true rfl) hs
theorem sf0_1 {k : Nat} (hs : wSh k = (0, 0)) : wSh (k + 2) = (1, 6) := w_all (P := fun k => wSh k = (0, 0) → wSh (k + 2) = (1, 6)) (by decide +kernel) hs (Nat.le_of_ble_eq_true rfl) hs
theorem sf1_0 {k : Nat} (hs : wSh k = (0, 1)) : wSh (k + 1) = (1, 5) := w_all (P := fun k => wSh k = (0, 1) → wSh (k + 1) = (1, 5)) (by decide +kernel) hs (Nat.le_of_ble_eq_true rfl) hs
theorem sf1_1 {k : Nat} (hs : wSh k = (0, 1)) : wSh (k + 2) = (1, 5) := w_all (P := fun k => wSh k = (0, 1) → wSh (k + 2) = (1, 5)) (by decide +kernel) hs (Nat.le_of_ble_eq_true rfl) hs
theorem sf2_0 {k : Nat} (hs : wSh k = (0, 2)) : wSh (k + 1) = (1, 111) := w_all (P := fun k => wSh k = (0, 2) → wSh (k + 1) = (1, 111)) (by decide +kernel) hs (Nat.le_of_ble_eq_true rfl) hs
theorem sf2_1 {k : Nat} (hs : wSh k = (0, 2)) : wSh (k + 2) = (1, 111) := w_all (P := fun k => wSh k = (0, 2) → wSh (k + 2) = (1, 111)) (by decide +kernel) hs (Nat.le_of_ble_eq_true rfl) hs
theorem sf2_3 {k : Nat} (hs : wSh k = (0, 2)) : wSh (k + 3) = (0, 0) := w_all (P := fun k => wSh k = (0, 2) → wSh (k + 3) = (0, 0)) (by decide +kernel) hs (Nat.le_of_ble_eq_true rfl) hs
theorem sf2_4 {k : Nat} (hs : wSh k = (0, 2)) : wSh (k + 6) = (0, 0) := w_all (P := fun k => wSh k = (0, 2) → wSh (k + 6) = (0, 0)) (by decide +kernel) hs (Nat.le_of_ble_eq_true rfl) hs
theorem sf3_0 {k : Nat} (hs : wSh k = (0, 3)) : wSh (k + 1) = (0, 0) := w_all (P := fun k => wSh k = (0, 3) → wSh (k + 1) = (0, 0)) (by decide +kernel) hs (Nat.le_of_ble_eq_true rfl) hs
theorem sf3_1 {k : Nat} (hs : wSh k = (0, 3)) : wSh (k + 4) = (0, 1) := w_all (P := fun k => wSh k = (0, 3) → wSh (k + 4) = (0, 1)) (by decide +kernel) hs (Nat.le_of_ble_eq_true rfl) hs
theorem sf3_2 {k : Nat} (hs : wSh k = (0, 3)) : wSh (k + 7) = (0, 0) := w_all (P := fun k => wSh k = (0, 3) → wSh (k + 7) = (0, 0)) (by decide +kernel) hs (Nat.le_of_ble_eq_true rfl) hs
theorem sf3_5 {k : Nat} (hs : wSh k = (0, 3)) : wSh (k + 10) = (1, 5) := w_all (P := fun k => wSh k = (0, 3) → wSh (k + 10) = (1, 5)) (by decide +kernel) hs (Nat.le_of_ble_eq_true rfl) hs
theorem sf4_0 {k : Nat} (hs : wSh k = (0, 4)) : wSh (k + 1) = (2, 60) := w_all (P := fun k => wSh k = (0, 4) → wSh (k + 1) = (2, 60)) (by decide +kernel) hs (Nat.le_of_ble_eq_true rfl) hs
theorem sf4_2 {k : Nat} (hs : wSh k = (0, 4)) : wSh (k + 2) = (1, 500) := w_all (P := fun k => wSh k = (0, 4) → wSh (k + 2) = (1, 500)) (by decide +kernel) hs (Nat.le_of_ble_eq_true rfl) hs
theorem sf4_5 {k : Nat} (hs : wSh k = (0, 4)) : wSh (k + 3) = (1, 4) := w_all (P := fun k => wSh k = (0, 4) → wSh (k + 3) = (1, 4)) (by decide +kernel) hs (Nat.le_of_ble_eq_true rfl) hs
theorem sf4_6 {k : Nat} (hs : wSh k = (0, 4)) : wSh (k + 4) = (1, 4) := w_all (P := fun k => wSh k = (0, 4) → wSh (k + 4) = (1, 4)) (by decide +kernel) hs (Nat.le_of_ble_eq_true rfl) hs
theorem sf4_7 {k : Nat} (hs : wSh k = (0, 4)) : wSh (k + 5) = (1, 4) := w_all (P := fun k => wSh k = (0, 4) → wSh (k + 5) = (1, 4)) (by decide +kernel) hs (Nat.le_of_ble_eq_true rfl) hs
theorem sf5_0 {k : Nat} (hs : wSh k = (0, 5)) : wSh (k + 1) = (0, 3) := w_all (P := fun k => wSh k = (0, 5) → wSh (k + 1) = (0, 3)) (by decide +kernel) hs (Nat.le_of_ble_eq_true rfl) hs
theorem sf5_1 {k : Nat} (hs : wSh k = (0, 5)) : wSh (k + 12) = (0, 3) := w_all (P := fun k => wSh k = (0, 5) → wSh (k + 12) = (0, 3)) (by decide +kernel) hs (Nat.le_of_ble_eq_true rfl) hs
theorem sf5_3 {k : Nat} (hs : wSh k = (0, 5)) : wSh (k + 23) = (3, 6) := w_all (P := fun k => wSh k = (0, 5) → wSh (k + 23) = (3, 6)) (by decide +kernel) hs (Nat.le_of_ble_eq_true rfl) hs
theorem sf5_5 {k : Nat} (hs : wSh k = (0, 5)) : wSh (k + 24) = (0, 4) := w_all (P := fun k => wSh k = (0, 5) → wSh (k + 24) = (0, 4)) (by decide +kernel) hs (Nat.le_of_ble_eq_true rfl) hs
theorem sf5_6 {k : Nat} (hs : wSh k = (0, 5)) : wSh (k + 30) = (0, 0) := w_all (P := fun k => wSh k = (0, 5) → wSh (k + 30) = (0, 0)) (by decide +kernel) hs (Nat.le_of_ble_eq_true rfl) hs
theorem sf5_7 {k : Nat} (hs : wSh k = (0, 5)) : wSh (k + 33) = (0, 0) := w_all (P := fun k => wSh k = (0, 5) → wSh (k + 33) = (0, 0)) (by decide +kernel) hs (Nat.le_of_ble_eq_true rfl) hs
theorem sf5_8 {k : Nat} (hs : wSh k = (0, 5)) : wSh (k + 36) = (0, 2) := w_all (P := fun k => wSh k = (0, 5) → wSh (k + 36) = (0, 2)) (by decide +kernel) hs (Nat.le_of_ble_eq_true rfl) hs
theorem sf6_1 {k : Nat} (hs : wSh k = (0, 6)) : wSh (k + 1) = (1, 49) := w_all (P := fun k => wSh k = (0, 6) → wSh (k + 1) = (1, 49)) (by decide +kernel) hs (Nat.le_of_ble_eq_true rfl) hs
theorem sf6_2 {k : Nat} (hs : wSh k = (0, 6)) : wSh (k + 2) = (1, 49) := w_all (P := fun k => wSh k = (0, 6) → wSh (k + 2) = (1, 49)) (by decide +kernel) hs (Nat.le_of_ble_eq_true rfl) hs
theorem sf6_3 {k : Nat} (hs : wSh k = (0, 6)) : wSh (k + 3) = (1, 294) := w_all (P := fun k => wSh k = (0, 6) → wSh (k + 3) = (1, 294)) (by decide +kernel) hs (Nat.le_of_ble_eq_true rfl) hs
theorem sf6_5 {k : Nat} (hs : wSh k = (0, 6)) : wSh (k + 4) = (1, 49) := w_all (P := fun k => wSh k = (0, 6) → wSh (k + 4) = (1, 49)) (by decide +kernel) hs (Nat.le_of_ble_eq_true rfl) hs
theorem sf6_7 {k : Nat} (hs : wSh k = (0, 6)) : wSh (k + 5) = (1, 60) := w_all (P := fun k => wSh k = (0, 6) → wSh (k + 5) = (1, 60)) (by decide +kernel) hs (Nat.le_of_ble_eq_true rfl) hs
theorem sf6_9 {k : Nat} (hs : wSh k = (0, 6)) : wSh (k + 6) = (1, 12) := w_all (P := fun k => wSh k = (0, 6) → wSh (k + 6) = (1, 12)) (by decide +kernel) hs (Nat.le_of_ble_eq_true rfl) hs
theorem sf6_10 {k : Nat} (hs : wSh k = (0, 6)) : wSh (k + 7) = (1, 500) := w_all (P := fun k => wSh k = (0, 6) → wSh (k + 7) = (1, 500)) (by decide +kernel) hs (Nat.le_of_ble_eq_true rfl) hs
theorem sf6_13 {k : Nat} (hs : wSh k = (0, 6)) : wSh (k + 8) = (1, 4) := w_all (P := fun k => wSh k = (0, 6) → wSh (k + 8) = (1, 4)) (by decide +kernel) hs (Nat.le_of_ble_eq_true rfl) hs
theorem sf6_14 {k : Nat} (hs : wSh k = (0, 6)) : wSh (k + 9) = (1, 4) := w_all (P := fun k => wSh k = (0, 6) → wSh (k + 9) = (1, 4)) (by decide +kernel) hs (Nat.le_of_ble_eq_true rfl) hs
theorem sf6_15 {k : Nat} (hs : wSh k = (0, 6)) : wSh (k + 10) = (1, 4) := w_all (P := fun k => wSh k = (0, 6) → wSh (k + 10) = (1, 4)) (by decide +kernel) hs (Nat.le_of_ble_eq_true rfl) hs
theorem sf6_16 {k : Nat} (hs : wSh k = (0, 6)) : wSh (k + 11) = (1, 4) := w_all (P := fun k => wSh k = (0, 6) → wSh (k + 11) = (1, 4)) (by decide +kernel) hs (Nat.le_of_ble_eq_true rfl) hs
theorem sf6_17 {k : Nat} (hs : wSh k = (0, 6)) : wSh (k + 12) = (1, 4) := w_all (P := fun k => wSh k = (0, 6) → wSh (k + 12) = (1, 4)) (by decide +kernel) hs (Nat.le_of_ble_eq_true rfl) hs
theorem fr0_0 : 0 < wNf 0 ∧ wOff 0 0 = some 1 := by decide +kernel
theorem fr0_1 : 1 < wNf 0 ∧ wOff 0 1 = some 2 := by decide +kernel
theorem fr1_0 : 0 < wNf 1 ∧ wOff 1 0 = some 1 := by decide +kernel
theorem fr1_1 : 1 < wNf 1 ∧ wOff 1 1 = some 2 := by decide +kernel
theorem fr2_0 : 0 < wNf 2 ∧ wOff 2 0 = some 1 := by decide +kernel
theorem fr2_1 : 1 < wNf 2 ∧ wOff 2 1 = some 2 := by decide +kernel
theorem fi2_2 : 2 < wNf 2 ∧ wOff 2 2 = none := by decide +kernel
theorem fw2_2 : 2 < wNf 2 ∧ wOff 2 2 = none ∧ (TX2 2).2.2.2 = false ∧ tyX2 2 = .int := ⟨by decide +kernel, rfl, rfl, rfl⟩
theorem fr2_3 : 3 < wNf 2 ∧ wOff 2 3 = some 3 := by decide +kernel
theorem fr2_4 : 4 < wNf 2 ∧ wOff 2 4 = some 6 := by decide +kernel
theorem fi2_5 : 5 < wNf 2 ∧ wOff 2 5 = none := by decide +kernel
theorem fw2_5 : 5 < wNf 2 ∧ wOff 2 5 = none ∧ (TX2 5).2.2.2 = false ∧ tyX2 5 = .int := ⟨by decide +kernel, rfl, rfl, rfl⟩
theorem fi2_6 : 6 < wNf 2 ∧ wOff 2 6 = none := by decide +kernel
theorem fw2_6 : 6 < wNf 2 ∧ wOff 2 6 = none ∧ (TX2 6).2.2.2 = false ∧ tyX2 6 = .int := ⟨by decide +kernel, rfl, rfl, rfl⟩
theorem fr3_0 : 0 < wNf 3 ∧ wOff 3 0 = some 1 := by decide +kernel
theorem fr3_1 : 1 < wNf 3 ∧ wOff 3 1 = some 4 := by decide +kernel
theorem fr3_2 : 2 < wNf 3 ∧ wOff 3 2 = some 7 := by decide +kernel
theorem fi3_3 : 3 < wNf 3 ∧ wOff 3 3 = none := by decide +kernel
theorem fw3_3 : 3 < wNf 3 ∧ wOff 3 3 = none ∧ (TX3 3).2.2.2 = false ∧ tyX3 3 = .boolean := ⟨by decide +kernel, rfl, rfl, rfl⟩
theorem fi3_4 : 4 < wNf 3 ∧ wOff 3 4 = none := by decide +kernel
theorem fw3_4 : 4 < wNf 3 ∧ wOff 3 4 = none ∧ (TX3 4).2.2.2 = false ∧ tyX3 4 = .int := ⟨by decide +kernel, rfl, rfl, rfl⟩
theorem fr3_5 : 5 < wNf 3 ∧ wOff 3 5 = some 10 := by decide +kernel
theorem fi3_6 : 6 < wNf 3 ∧ wOff 3 6 = none := by decide +kernel
theorem fw3_6 : 6 < wNf 3 ∧ wOff 3 6 = none ∧ (TX3 6).2.2.2 = false ∧ tyX3 6 = .int := ⟨by decide +kernel, rfl, rfl, rfl⟩
theorem fi3_7 : 7 < wNf 3 ∧ wOff 3 7 = none := by decide +kernel
theorem fw3_7 : 7 < wNf 3 ∧ wOff 3 7 = none ∧ (TX3 7).2.2.2 = false ∧ tyX3 7 = .int := ⟨by decide +kernel, rfl, rfl, rfl⟩
theorem fi3_8 : 8 < wNf 3 ∧ wOff 3 8 = none := by decide +kernel
theorem fw3_8 : 8 < wNf 3 ∧ wOff 3 8 = none ∧ (TX3 8).2.2.2 = false ∧ tyX3 8 = .int := ⟨by decide +kernel, rfl, rfl, rfl⟩
theorem fr4_0 : 0 < wNf 4 ∧ wOff 4 0 = some 1 := by decide +kernel
theorem fi4_1 : 1 < wNf 4 ∧ wOff 4 1 = none := by decide +kernel
theorem fw4_1 : 1 < wNf 4 ∧ wOff 4 1 = none ∧ (TX4 1).2.2.2 = false ∧ tyX4 1 = .int := ⟨by decide +kernel, rfl, rfl, rfl⟩
theorem fr4_2 : 2 < wNf 4 ∧ wOff 4 2 = some 2 := by decide +kernel
theorem fi4_3 : 3 < wNf 4 ∧ wOff 4 3 = none := by decide +kernel
theorem fw4_3 : 3 < wNf 4 ∧ wOff 4 3 = none ∧ (TX4 3).2.2.2 = false ∧ tyX4 3 = .int := ⟨by decide +kernel, rfl, rfl, rfl⟩
theorem fi4_4 : 4 < wNf 4 ∧ wOff 4 4 = none := by decide +kernel
theorem fw4_4 : 4 < wNf 4 ∧ wOff 4 4 = none ∧ (TX4 4).2.2.2 = false ∧ tyX4 4 = .boolean := ⟨by decide +kernel, rfl, rfl, rfl⟩
theorem fr4_5 : 5 < wNf 4 ∧ wOff 4 5 = some 3 := by decide +kernel
theorem fr4_6 : 6 < wNf 4 ∧ wOff 4 6 = some 4 := by decide +kernel
theorem fr4_7 : 7 < wNf 4 ∧ wOff 4 7 = some 5 := by decide +kernel
theorem fi4_8 : 8 < wNf 4 ∧ wOff 4 8 = none := by decide +kernel
theorem fw4_8 : 8 < wNf 4 ∧ wOff 4 8 = none ∧ (TX4 8).2.2.2 = false ∧ tyX4 8 = .int := ⟨by decide +kernel, rfl, rfl, rfl⟩
theorem fi4_9 : 9 < wNf 4 ∧ wOff 4 9 = none := by decide +kernel
theorem fw4_9 : 9 < wNf 4 ∧ wOff 4 9 = none ∧ (TX4 9).2.2.2 = false ∧ tyX4 9 = .boolean := ⟨by decide +kernel, rfl, rfl, rfl⟩
theorem fi4_10 : 10 < wNf 4 ∧ wOff 4 10 = none := by decide +kernel
theorem fw4_10 : 10 < wNf 4 ∧ wOff 4 10 = none ∧ (TX4 10).2.2.2 = false ∧ tyX4 10 = .boolean := ⟨by decide +kernel, rfl, rfl, rfl⟩
theorem fr5_0 : 0 < wNf 5 ∧ wOff 5 0 = some 1 := by decide +kernel
theorem fr5_1 : 1 < wNf 5 ∧ wOff 5 1 = some 12 := by decide +kernel
theorem fi5_2 : 2 < wNf 5 ∧ wOff 5 2 = none := by decide +kernel
theorem fw5_2 : 2 < wNf 5 ∧ wOff 5 2 = none ∧ (TX5 2).2.2.2 = false ∧ tyX5 2 = .boolean := ⟨by decide +kernel, rfl, rfl, rfl⟩
theorem fr5_3 : 3 < wNf 5 ∧ wOff 5 3 = some 23 := by decide +kernel
theorem fi5_4 : 4 < wNf 5 ∧ wOff 5 4 = none := by decide +kernel
theorem fw5_4 : 4 < wNf 5 ∧ wOff 5 4 = none ∧ (TX5 4).2.2.2 = false ∧ tyX5 4 = .int := ⟨by decide +kernel, rfl, rfl, rfl⟩
theorem fr5_5 : 5 < wNf 5 ∧ wOff 5 5 = some 24 := by decide +kernel
theorem fr5_6 : 6 < wNf 5 ∧ wOff 5 6 = some 30 := by decide +kernel
theorem fr5_7 : 7 < wNf 5 ∧ wOff 5 7 = some 33 := by decide +kernel
theorem fr5_8 : 8 < wNf 5 ∧ wOff 5 8 = some 36 := by decide +kernel
theorem fi6_0 : 0 < wNf 6 ∧ wOff 6 0 = none := by decide +kernel
theorem fw6_0 : 0 < wNf 6 ∧ wOff 6 0 = none ∧ (TX6 0).2.2.2 = false ∧ tyX6 0 = .int := ⟨by decide +kernel, rfl, rfl, rfl⟩
theorem fr6_1 : 1 < wNf 6 ∧ wOff 6 1 = some 1 := by decide +kernel
theorem fr6_2 : 2 < wNf 6 ∧ wOff 6 2 = some 2 := by decide +kernel
theorem fr6_3 : 3 < wNf 6 ∧ wOff 6 3 = some 3 := by decide +kernel
theorem fi6_4 : 4 < wNf 6 ∧ wOff 6 4 = none := by decide +kernel
theorem fw6_4 : 4 < wNf 6 ∧ wOff 6 4 = none ∧ (TX6 4).2.2.2 = false ∧ tyX6 4 = .int := ⟨by decide +kernel, rfl, rfl, rfl⟩
theorem fr6_5 : 5 < wNf 6 ∧ wOff 6 5 = some 4 := by decide +kernel
theorem fi6_6 : 6 < wNf 6 ∧ wOff 6 6 = none := by decide +kernel
theorem fw6_6 : 6 < wNf 6 ∧ wOff 6 6 = none ∧ (TX6 6).2.2.2 = false ∧ tyX6 6 = .boolean := ⟨by decide +kernel, rfl, rfl, rfl⟩
theorem fr6_7 : 7 < wNf 6 ∧ wOff 6 7 = some 5 := by decide +kernel
theorem fi6_8 : 8 < wNf 6 ∧ wOff 6 8 = none := by decide +kernel
theorem fw6_8 : 8 < wNf 6 ∧ wOff 6 8 = none ∧ (TX6 8).2.2.2 = false ∧ tyX6 8 = .int := ⟨by decide +kernel, rfl, rfl, rfl⟩
theorem fr6_9 : 9 < wNf 6 ∧ wOff 6 9 = some 6 := by decide +kernel
theorem fr6_10 : 10 < wNf 6 ∧ wOff 6 10 = some 7 := by decide +kernel
theorem fi6_11 : 11 < wNf 6 ∧ wOff 6 11 = none := by decide +kernel
theorem fw6_11 : 11 < wNf 6 ∧ wOff 6 11 = none ∧ (TX6 11).2.2.2 = false ∧ tyX6 11 = .int := ⟨by decide +kernel, rfl, rfl, rfl⟩
theorem fi6_12 : 12 < wNf 6 ∧ wOff 6 12 = none := by decide +kernel
theorem fw6_12 : 12 < wNf 6 ∧ wOff 6 12 = none ∧ (TX6 12).2.2.2 = false ∧ tyX6 12 = .int := ⟨by decide +kernel, rfl, rfl, rfl⟩
theorem fr6_13 : 13 < wNf 6 ∧ wOff 6 13 = some 8 := by decide +kernel
theorem fr6_14 : 14 < wNf 6 ∧ wOff 6 14 = some 9 := by decide +kernel
theorem fr6_15 : 15 < wNf 6 ∧ wOff 6 15 = some 10 := by decide +kernel
theorem fr6_16 : 16 < wNf 6 ∧ wOff 6 16 = some 11 := by decide +kernel
theorem fr6_17 : 17 < wNf 6 ∧ wOff 6 17 = some 12 := by decide +kernel
theorem fi6_18 : 18 < wNf 6 ∧ wOff 6 18 = none := by decide +kernel
theorem fw6_18 : 18 < wNf 6 ∧ wOff 6 18 = none ∧ (TX6 18).2.2.2 = false ∧ tyX6 18 = .int := ⟨by decide +kernel, rfl, rfl, rfl⟩
theorem fi6_19 : 19 < wNf 6 ∧ wOff 6 19 = none := by decide +kernel
theorem fw6_19 : 19 < wNf 6 ∧ wOff 6 19 = none ∧ (TX6 19).2.2.2 = false ∧ tyX6 19 = .boolean := ⟨by decide +kernel, rfl, rfl, rfl⟩
theorem fi6_20 : 20 < wNf 6 ∧ wOff 6 20 = none := by decide +kernel
theorem fw6_20 : 20 < wNf 6 ∧ wOff 6 20 = none ∧ (TX6 20).2.2.2 = false ∧ tyX6 20 = .boolean := ⟨by decide +kernel, rfl, rfl, rfl⟩
end
