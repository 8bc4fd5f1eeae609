theorem qs1 : (Cond.selects RX5 yX5_save yX5_save) ∈ lw_all := lw_inS (List.mem_of_getElem? (i := 1) (by decide +kernel)) rfl
theorem qs2 : (Cond.selects RX5 yX5_dropOldest yX5_dropOldest) ∈ lw_all := lw_inS (List.mem_of_getElem? (i := 2) (by decide +kernel)) rfl
theorem qs3 : (Cond.selects RX5 yX5_writeSaved yX5_writeSaved) ∈ lw_all := lw_inS (List.mem_of_getElem? (i := 3) (by decide +kernel)) rfl
theorem qs4 : (Cond.selects RX5 yX5_showKey yX5_showKey) ∈ lw_all := lw_inS (List.mem_of_getElem? (i := 4) (by decide +kernel)) rfl
theorem qs5 : (Cond.selects RX5 yX5_periodByDoing yX5_periodByDoing) ∈ lw_all := lw_inS (List.mem_of_getElem? (i := 5) (by decide +kernel)) rfl
theorem qs6 : (Cond.selects RX0 yX0_placeOf yX0_placeOf) ∈ lw_all := lw_inS (List.mem_of_getElem? (i := 6) (by decide +kernel)) rfl
theorem qs7 : (Cond.selects RX5 yX5_showPair yX5_showPair) ∈ lw_all := lw_inS (List.mem_of_getElem? (i := 7) (by decide +kernel)) rfl
theorem qs8 : (Cond.selects RX2 yX2_listNear yX2_listNear) ∈ lw_all := lw_inS (List.mem_of_getElem? (i := 8) (by decide +kernel)) rfl
theorem qs9 : (Cond.selects RX2 yX2_list yX2_list) ∈ lw_all := lw_inS (List.mem_of_getElem? (i := 9) (by decide +kernel)) rfl
theorem qs10 : (Cond.selects RX2 yX2_listBehindOne yX2_listBehindOne) ∈ lw_all := lw_inS (List.mem_of_getElem? (i := 10) (by decide +kernel)) rfl
theorem qs11 : (Cond.selects RX2 yX2_tryFirst yX2_tryFirst) ∈ lw_all := lw_inS (List.mem_of_getElem? (i := 11) (by decide +kernel)) rfl
theorem qs12 : (Cond.selects RX2 yX2_listedTurns yX2_listedTurns) ∈ lw_all := lw_inS (List.mem_of_getElem? (i := 12) (by decide +kernel)) rfl
theorem qs13 : (Cond.selects RX2 yX2_meetsList yX2_meetsList) ∈ lw_all := lw_inS (List.mem_of_getElem? (i := 13) (by decide +kernel)) rfl
theorem qs14 : (Cond.selects RX5 yX5_turnOnce yX5_turnOnce) ∈ lw_all := lw_inS (List.mem_of_getElem? (i := 14) (by decide +kernel)) rfl
theorem q1_0 : (Cond.initialized RL) ∈ lw_all := lw_in1 (List.mem_of_getElem? (i := 0) (by decide +kernel)) rfl
theorem q1_1 : (Cond.initialized RX5) ∈ lw_all := lw_in1 (List.mem_of_getElem? (i := 1) (by decide +kernel)) rfl
theorem q1_2 : (Cond.initialized RX3) ∈ lw_all := lw_in1 (List.mem_of_getElem? (i := 2) (by decide +kernel)) rfl
theorem q1_3 : (Cond.initialized RX0) ∈ lw_all := lw_in1 (List.mem_of_getElem? (i := 3) (by decide +kernel)) rfl
theorem q1_4 : (Cond.initialized RX1) ∈ lw_all := lw_in1 (List.mem_of_getElem? (i := 4) (by decide +kernel)) rfl
theorem q1_5 : (Cond.initialized RX4) ∈ lw_all := lw_in1 (List.mem_of_getElem? (i := 5) (by decide +kernel)) rfl
theorem q1_6 : (Cond.initialized RX2) ∈ lw_all := lw_in1 (List.mem_of_getElem? (i := 6) (by decide +kernel)) rfl
theorem q1_7 : (Cond.initialized "java/lang/Throwable") ∈ lw_all := lw_in1 (List.mem_of_getElem? (i := 7) (by decide +kernel)) rfl
theorem q1_8 : (Cond.initialized "java/lang/Exception") ∈ lw_all := lw_in1 (List.mem_of_getElem? (i := 8) (by decide +kernel)) rfl
theorem q1_9 : (Cond.initialized "java/lang/RuntimeException") ∈ lw_all := lw_in1 (List.mem_of_getElem? (i := 9) (by decide +kernel)) rfl
theorem q1_10 : (Cond.initialized "java/lang/IndexOutOfBoundsException") ∈ lw_all := lw_in1 (List.mem_of_getElem? (i := 10) (by decide +kernel)) rfl
theorem q1_11 : (Cond.initialized "java/lang/IllegalArgumentException") ∈ lw_all := lw_in1 (List.mem_of_getElem? (i := 11) (by decide +kernel)) rfl
theorem q1_12 : (Cond.initialized RJ6) ∈ lw_all := lw_in1 (List.mem_of_getElem? (i := 12) (by decide +kernel)) rfl
theorem q1_13 : (Cond.initialized "java/lang/IllegalStateException") ∈ lw_all := lw_in1 (List.mem_of_getElem? (i := 13) (by decide +kernel)) rfl
theorem q1_14 : (Cond.initialized RJ9) ∈ lw_all := lw_in1 (List.mem_of_getElem? (i := 14) (by decide +kernel)) rfl
theorem q1_15 : (Cond.classLink RL 10 RX5) ∈ lw_all := lw_in1 (List.mem_of_getElem? (i := 15) (by decide +kernel)) rfl
theorem q1_16 : (Cond.instantiable RX5 9) ∈ lw_all := lw_in1 (List.mem_of_getElem? (i := 16) (by decide +kernel)) rfl
theorem q1_17 : (Cond.methodLink RL 122 yX5_init) ∈ lw_all := lw_in1 (List.mem_of_getElem? (i := 17) (by decide +kernel)) rfl
theorem q1_18 : (Cond.instanceMethod yX5_init) ∈ lw_all := lw_in1 (List.mem_of_getElem? (i := 18) (by decide +kernel)) rfl
theorem q1_19 : (Cond.code yX5_init cX5_init 2 none) ∈ lw_all := lw_in1 (List.mem_of_getElem? (i := 19) (by decide +kernel)) rfl
theorem q1_20 : (Cond.methodLink RX5 3 ⟨"java/lang/Object", "<init>", "()V"⟩) ∈ lw_all := lw_in1 (List.mem_of_getElem? (i := 20) (by decide +kernel)) rfl
theorem q1_21 : (Cond.instanceMethod ⟨"java/lang/Object", "<init>", "()V"⟩) ∈ lw_all := lw_in1 (List.mem_of_getElem? (i := 21) (by decide +kernel)) rfl
theorem q1_22 : ((Jvm.Cond.code ({ cls := "java/lang/Object", name := "<init>", desc := "()V" } : Jvm.MethodName) object_method_1_code (1 : Nat) (Option.none : Option Jvm.ClassFile.FieldType))) ∈ lw_all := lw_in1 (List.mem_of_getElem? (i := 22) (by decide +kernel)) rfl
theorem q1_23 : (Cond.classLink RX5 9 RX3) ∈ lw_all := lw_in1 (List.mem_of_getElem? (i := 23) (by decide +kernel)) rfl
theorem q1_24 : (Cond.instantiable RX3 9) ∈ lw_all := lw_in1 (List.mem_of_getElem? (i := 24) (by decide +kernel)) rfl
theorem qn1_25 : (Cond.methodLinkNest RX5 11 yX3_init RX5) ∈ lw_nw := lw_nin1 (List.mem_of_getElem? (i := 25) (by decide +kernel)) rfl
theorem q1_26 : (Cond.instanceMethod yX3_init) ∈ lw_all := lw_in1 (List.mem_of_getElem? (i := 26) (by decide +kernel)) rfl
theorem q1_27 : (Cond.code yX3_init cX3_init 1 none) ∈ lw_all := lw_in1 (List.mem_of_getElem? (i := 27) (by decide +kernel)) rfl
theorem q1_28 : (Cond.methodLink RX3 3 ⟨"java/lang/Object", "<init>", "()V"⟩) ∈ lw_all := lw_in1 (List.mem_of_getElem? (i := 28) (by decide +kernel)) rfl
theorem q1_29 : (Cond.classLink RX3 9 RX0) ∈ lw_all := lw_in1 (List.mem_of_getElem? (i := 29) (by decide +kernel)) rfl
theorem q1_30 : (Cond.instantiable RX0 2) ∈ lw_all := lw_in1 (List.mem_of_getElem? (i := 30) (by decide +kernel)) rfl
theorem q1_31 : (Cond.methodLink RX3 11 yX0_init) ∈ lw_all := lw_in1 (List.mem_of_getElem? (i := 31) (by decide +kernel)) rfl
theorem q1_32 : (Cond.instanceMethod yX0_init) ∈ lw_all := lw_in1 (List.mem_of_getElem? (i := 32) (by decide +kernel)) rfl
theorem q1_33 : (Cond.code yX0_init cX0_init 2 none) ∈ lw_all := lw_in1 (List.mem_of_getElem? (i := 33) (by decide +kernel)) rfl
theorem q1_34 : (Cond.methodLink RX0 3 ⟨"java/lang/Object", "<init>", "()V"⟩) ∈ lw_all := lw_in1 (List.mem_of_getElem? (i := 34) (by decide +kernel)) rfl
theorem q1_35 : (Cond.fieldLink RX0 9 "PairedTumblers$Discs" "disc" "[I") ∈ lw_all := lw_in1 (List.mem_of_getElem? (i := 35) (by decide +kernel)) rfl
theorem q1_36 : (Cond.fieldLink RX0 15 "PairedTumblers$Discs" "notch" "[I") ∈ lw_all := lw_in1 (List.mem_of_getElem? (i := 36) (by decide +kernel)) rfl
theorem q1_37 : ((Jvm.Cond.laysFinal "PairedTumblers$Discs" "PairedTumblers$Discs" "disc" "[I")) ∈ lw_all := lw_in1 (List.mem_of_getElem? (i := 37) (by decide +kernel)) rfl
theorem q1_38 : ((Jvm.Cond.soleField "PairedTumblers$Discs" "disc")) ∈ lw_all := lw_in1 (List.mem_of_getElem? (i := 38) (by decide +kernel)) rfl
theorem q1_39 : ((Jvm.Cond.laysFinal "PairedTumblers$Discs" "PairedTumblers$Discs" "notch" "[I")) ∈ lw_all := lw_in1 (List.mem_of_getElem? (i := 39) (by decide +kernel)) rfl
theorem q1_40 : ((Jvm.Cond.soleField "PairedTumblers$Discs" "notch")) ∈ lw_all := lw_in1 (List.mem_of_getElem? (i := 40) (by decide +kernel)) rfl
theorem q1_41 : ((Jvm.Cond.superclass "PairedTumblers$Discs" "java/lang/Object")) ∈ lw_all := lw_in1 (List.mem_of_getElem? (i := 41) (by decide +kernel)) rfl
theorem q1_42 : ((Jvm.Cond.arrayClass Jvm.ClassFile.FieldType.int)) ∈ lw_all := lw_in1 (List.mem_of_getElem? (i := 42) (by decide +kernel)) rfl
theorem q1_43 : (Cond.classLink RX3 18 RX1) ∈ lw_all := lw_in1 (List.mem_of_getElem? (i := 43) (by decide +kernel)) rfl
theorem q1_44 : (Cond.instantiable RX1 2) ∈ lw_all := lw_in1 (List.mem_of_getElem? (i := 44) (by decide +kernel)) rfl
theorem q1_45 : (Cond.methodLink RX3 20 yX1_init) ∈ lw_all := lw_in1 (List.mem_of_getElem? (i := 45) (by decide +kernel)) rfl
theorem q1_46 : (Cond.instanceMethod yX1_init) ∈ lw_all := lw_in1 (List.mem_of_getElem? (i := 46) (by decide +kernel)) rfl
theorem q1_47 : (Cond.code yX1_init cX1_init 2 none) ∈ lw_all := lw_in1 (List.mem_of_getElem? (i := 47) (by decide +kernel)) rfl
theorem q1_48 : (Cond.methodLink RX1 3 ⟨"java/lang/Object", "<init>", "()V"⟩) ∈ lw_all := lw_in1 (List.mem_of_getElem? (i := 48) (by decide +kernel)) rfl
theorem q1_49 : (Cond.fieldLink RX1 9 "PairedTumblers$Keys" "mask" "[I") ∈ lw_all := lw_in1 (List.mem_of_getElem? (i := 49) (by decide +kernel)) rfl
theorem q1_50 : (Cond.fieldLink RX1 15 "PairedTumblers$Keys" "strength" "[I") ∈ lw_all := lw_in1 (List.mem_of_getElem? (i := 50) (by decide +kernel)) rfl
theorem q1_51 : ((Jvm.Cond.laysFinal "PairedTumblers$Keys" "PairedTumblers$Keys" "mask" "[I")) ∈ lw_all := lw_in1 (List.mem_of_getElem? (i := 51) (by decide +kernel)) rfl
theorem q1_52 : ((Jvm.Cond.soleField "PairedTumblers$Keys" "mask")) ∈ lw_all := lw_in1 (List.mem_of_getElem? (i := 52) (by decide +kernel)) rfl
theorem q1_53 : ((Jvm.Cond.laysFinal "PairedTumblers$Keys" "PairedTumblers$Keys" "strength" "[I")) ∈ lw_all := lw_in1 (List.mem_of_getElem? (i := 53) (by decide +kernel)) rfl
theorem q1_54 : ((Jvm.Cond.soleField "PairedTumblers$Keys" "strength")) ∈ lw_all := lw_in1 (List.mem_of_getElem? (i := 54) (by decide +kernel)) rfl
theorem q1_55 : ((Jvm.Cond.superclass "PairedTumblers$Keys" "java/lang/Object")) ∈ lw_all := lw_in1 (List.mem_of_getElem? (i := 55) (by decide +kernel)) rfl
theorem q1_56 : (Cond.fieldLink RX3 12 "PairedTumblers$State" "discs" "LPairedTumblers$Discs;") ∈ lw_all := lw_in1 (List.mem_of_getElem? (i := 56) (by decide +kernel)) rfl
theorem qn1_57 : (Cond.fieldLinkNest RX2 60 "PairedTumblers$State" "discs" "LPairedTumblers$Discs;" RX5) ∈ lw_nw := lw_nin1 (List.mem_of_getElem? (i := 57) (by decide +kernel)) rfl
theorem qn1_58 : (Cond.fieldLinkNest RX5 99 "PairedTumblers$State" "discs" "LPairedTumblers$Discs;" RX5) ∈ lw_nw := lw_nin1 (List.mem_of_getElem? (i := 58) (by decide +kernel)) rfl
theorem q1_59 : (Cond.fieldLink RX3 21 "PairedTumblers$State" "keys" "LPairedTumblers$Keys;") ∈ lw_all := lw_in1 (List.mem_of_getElem? (i := 59) (by decide +kernel)) rfl
theorem qn1_60 : (Cond.fieldLinkNest RX2 67 "PairedTumblers$State" "keys" "LPairedTumblers$Keys;" RX5) ∈ lw_nw := lw_nin1 (List.mem_of_getElem? (i := 60) (by decide +kernel)) rfl
theorem qn1_61 : (Cond.fieldLinkNest RX5 124 "PairedTumblers$State" "keys" "LPairedTumblers$Keys;" RX5) ∈ lw_nw := lw_nin1 (List.mem_of_getElem? (i := 61) (by decide +kernel)) rfl
theorem q1_62 : (Cond.fieldLink RX3 25 "PairedTumblers$State" "secret" "LPairedTumblers$Discs;") ∈ lw_all := lw_in1 (List.mem_of_getElem? (i := 62) (by decide +kernel)) rfl
theorem qn1_63 : (Cond.fieldLinkNest RX2 85 "PairedTumblers$State" "secret" "LPairedTumblers$Discs;" RX5) ∈ lw_nw := lw_nin1 (List.mem_of_getElem? (i := 63) (by decide +kernel)) rfl
theorem qn1_64 : (Cond.fieldLinkNest RX5 146 "PairedTumblers$State" "secret" "LPairedTumblers$Discs;" RX5) ∈ lw_nw := lw_nin1 (List.mem_of_getElem? (i := 64) (by decide +kernel)) rfl
theorem q1_65 : (Cond.fieldLink RX3 28 "PairedTumblers$State" "hasSecret" "Z") ∈ lw_all := lw_in1 (List.mem_of_getElem? (i := 65) (by decide +kernel)) rfl
theorem qn1_66 : (Cond.fieldLinkNest RX2 38 "PairedTumblers$State" "hasSecret" "Z" RX5) ∈ lw_nw := lw_nin1 (List.mem_of_getElem? (i := 66) (by decide +kernel)) rfl
theorem qn1_67 : (Cond.fieldLinkNest RX5 153 "PairedTumblers$State" "hasSecret" "Z" RX5) ∈ lw_nw := lw_nin1 (List.mem_of_getElem? (i := 67) (by decide +kernel)) rfl
theorem q1_68 : (Cond.fieldLink RX3 32 "PairedTumblers$State" "stuck" "I") ∈ lw_all := lw_in1 (List.mem_of_getElem? (i := 68) (by decide +kernel)) rfl
theorem qn1_69 : (Cond.fieldLinkNest RX5 140 "PairedTumblers$State" "stuck" "I" RX5) ∈ lw_nw := lw_nin1 (List.mem_of_getElem? (i := 69) (by decide +kernel)) rfl
theorem q1_70 : (Cond.fieldLink RX3 36 "PairedTumblers$State" "uses" "[I") ∈ lw_all := lw_in1 (List.mem_of_getElem? (i := 70) (by decide +kernel)) rfl
theorem q1_71 : (Cond.fieldLink RX3 40 "PairedTumblers$State" "turns" "I") ∈ lw_all := lw_in1 (List.mem_of_getElem? (i := 71) (by decide +kernel)) rfl
theorem qn1_72 : (Cond.fieldLinkNest RX5 170 "PairedTumblers$State" "turns" "I" RX5) ∈ lw_nw := lw_nin1 (List.mem_of_getElem? (i := 72) (by decide +kernel)) rfl
theorem q1_73 : (Cond.fieldLink RX3 43 "PairedTumblers$State" "account" "I") ∈ lw_all := lw_in1 (List.mem_of_getElem? (i := 73) (by decide +kernel)) rfl
theorem qn1_74 : (Cond.fieldLinkNest RX5 113 "PairedTumblers$State" "account" "I" RX5) ∈ lw_nw := lw_nin1 (List.mem_of_getElem? (i := 74) (by decide +kernel)) rfl
theorem q1_75 : (Cond.fieldLink RX3 46 "PairedTumblers$State" "openings" "I") ∈ lw_all := lw_in1 (List.mem_of_getElem? (i := 75) (by decide +kernel)) rfl
theorem qn1_76 : (Cond.fieldLinkNest RX5 230 "PairedTumblers$State" "openings" "I" RX5) ∈ lw_nw := lw_nin1 (List.mem_of_getElem? (i := 76) (by decide +kernel)) rfl
theorem q1_77 : ((Jvm.Cond.laysFinal "PairedTumblers$State" "PairedTumblers$State" "discs" "LPairedTumblers$Discs;")) ∈ lw_all := lw_in1 (List.mem_of_getElem? (i := 77) (by decide +kernel)) rfl
theorem q1_78 : ((Jvm.Cond.soleField "PairedTumblers$State" "discs")) ∈ lw_all := lw_in1 (List.mem_of_getElem? (i := 78) (by decide +kernel)) rfl
theorem q1_79 : ((Jvm.Cond.laysFinal "PairedTumblers$State" "PairedTumblers$State" "keys" "LPairedTumblers$Keys;")) ∈ lw_all := lw_in1 (List.mem_of_getElem? (i := 79) (by decide +kernel)) rfl
theorem q1_80 : ((Jvm.Cond.soleField "PairedTumblers$State" "keys")) ∈ lw_all := lw_in1 (List.mem_of_getElem? (i := 80) (by decide +kernel)) rfl
theorem q1_81 : ((Jvm.Cond.laysFinal "PairedTumblers$State" "PairedTumblers$State" "secret" "LPairedTumblers$Discs;")) ∈ lw_all := lw_in1 (List.mem_of_getElem? (i := 81) (by decide +kernel)) rfl
theorem q1_82 : ((Jvm.Cond.soleField "PairedTumblers$State" "secret")) ∈ lw_all := lw_in1 (List.mem_of_getElem? (i := 82) (by decide +kernel)) rfl
theorem q1_83 : ((Jvm.Cond.lays "PairedTumblers$State" "PairedTumblers$State" "hasSecret" "Z")) ∈ lw_all := lw_in1 (List.mem_of_getElem? (i := 83) (by decide +kernel)) rfl
theorem q1_84 : ((Jvm.Cond.soleField "PairedTumblers$State" "hasSecret")) ∈ lw_all := lw_in1 (List.mem_of_getElem? (i := 84) (by decide +kernel)) rfl
theorem q1_85 : ((Jvm.Cond.lays "PairedTumblers$State" "PairedTumblers$State" "stuck" "I")) ∈ lw_all := lw_in1 (List.mem_of_getElem? (i := 85) (by decide +kernel)) rfl
theorem q1_86 : ((Jvm.Cond.soleField "PairedTumblers$State" "stuck")) ∈ lw_all := lw_in1 (List.mem_of_getElem? (i := 86) (by decide +kernel)) rfl
theorem q1_87 : ((Jvm.Cond.laysFinal "PairedTumblers$State" "PairedTumblers$State" "uses" "[I")) ∈ lw_all := lw_in1 (List.mem_of_getElem? (i := 87) (by decide +kernel)) rfl
theorem q1_88 : ((Jvm.Cond.soleField "PairedTumblers$State" "uses")) ∈ lw_all := lw_in1 (List.mem_of_getElem? (i := 88) (by decide +kernel)) rfl
theorem q1_89 : ((Jvm.Cond.lays "PairedTumblers$State" "PairedTumblers$State" "turns" "I")) ∈ lw_all := lw_in1 (List.mem_of_getElem? (i := 89) (by decide +kernel)) rfl
theorem q1_90 : ((Jvm.Cond.soleField "PairedTumblers$State" "turns")) ∈ lw_all := lw_in1 (List.mem_of_getElem? (i := 90) (by decide +kernel)) rfl
theorem q1_91 : ((Jvm.Cond.lays "PairedTumblers$State" "PairedTumblers$State" "account" "I")) ∈ lw_all := lw_in1 (List.mem_of_getElem? (i := 91) (by decide +kernel)) rfl
theorem q1_92 : ((Jvm.Cond.soleField "PairedTumblers$State" "account")) ∈ lw_all := lw_in1 (List.mem_of_getElem? (i := 92) (by decide +kernel)) rfl
theorem q1_93 : ((Jvm.Cond.lays "PairedTumblers$State" "PairedTumblers$State" "openings" "I")) ∈ lw_all := lw_in1 (List.mem_of_getElem? (i := 93) (by decide +kernel)) rfl
theorem q1_94 : ((Jvm.Cond.soleField "PairedTumblers$State" "openings")) ∈ lw_all := lw_in1 (List.mem_of_getElem? (i := 94) (by decide +kernel)) rfl
theorem q1_95 : ((Jvm.Cond.superclass "PairedTumblers$State" "java/lang/Object")) ∈ lw_all := lw_in1 (List.mem_of_getElem? (i := 95) (by decide +kernel)) rfl
theorem q1_97 : (Cond.classLink RX5 31 RX4) ∈ lw_all := lw_in1 (List.mem_of_getElem? (i := 97) (by decide +kernel)) rfl
theorem q1_98 : (Cond.instantiable RX4 11) ∈ lw_all := lw_in1 (List.mem_of_getElem? (i := 98) (by decide +kernel)) rfl
theorem qn1_99 : (Cond.methodLinkNest RX5 33 yX4_init RX5) ∈ lw_nw := lw_nin1 (List.mem_of_getElem? (i := 99) (by decide +kernel)) rfl
theorem q1_100 : (Cond.instanceMethod yX4_init) ∈ lw_all := lw_in1 (List.mem_of_getElem? (i := 100) (by decide +kernel)) rfl
theorem q1_101 : (Cond.code yX4_init cX4_init 1 none) ∈ lw_all := lw_in1 (List.mem_of_getElem? (i := 101) (by decide +kernel)) rfl
theorem q1_102 : (Cond.methodLink RX4 3 ⟨"java/lang/Object", "<init>", "()V"⟩) ∈ lw_all := lw_in1 (List.mem_of_getElem? (i := 102) (by decide +kernel)) rfl
theorem q1_103 : (Cond.fieldLink RX4 9 "PairedTumblers$WordText" "sign" "[C") ∈ lw_all := lw_in1 (List.mem_of_getElem? (i := 103) (by decide +kernel)) rfl
theorem q1_104 : (Cond.fieldLink RX4 15 "PairedTumblers$WordText" "length" "I") ∈ lw_all := lw_in1 (List.mem_of_getElem? (i := 104) (by decide +kernel)) rfl
theorem q1_105 : (Cond.fieldLink RX4 19 "PairedTumblers$WordText" "moves" "[I") ∈ lw_all := lw_in1 (List.mem_of_getElem? (i := 105) (by decide +kernel)) rfl
theorem q1_106 : (Cond.fieldLink RX4 23 "PairedTumblers$WordText" "total" "I") ∈ lw_all := lw_in1 (List.mem_of_getElem? (i := 106) (by decide +kernel)) rfl
theorem q1_107 : (Cond.fieldLink RX4 26 "PairedTumblers$WordText" "complete" "Z") ∈ lw_all := lw_in1 (List.mem_of_getElem? (i := 107) (by decide +kernel)) rfl
theorem q1_108 : (Cond.fieldLink RX4 30 "PairedTumblers$WordText" "kind" "[I") ∈ lw_all := lw_in1 (List.mem_of_getElem? (i := 108) (by decide +kernel)) rfl
theorem q1_109 : (Cond.fieldLink RX4 33 "PairedTumblers$WordText" "begin" "[I") ∈ lw_all := lw_in1 (List.mem_of_getElem? (i := 109) (by decide +kernel)) rfl
theorem q1_110 : (Cond.fieldLink RX4 36 "PairedTumblers$WordText" "middle" "[I") ∈ lw_all := lw_in1 (List.mem_of_getElem? (i := 110) (by decide +kernel)) rfl
theorem q1_111 : (Cond.fieldLink RX4 39 "PairedTumblers$WordText" "open" "I") ∈ lw_all := lw_in1 (List.mem_of_getElem? (i := 111) (by decide +kernel)) rfl
theorem q1_112 : (Cond.fieldLink RX4 42 "PairedTumblers$WordText" "hasItem" "Z") ∈ lw_all := lw_in1 (List.mem_of_getElem? (i := 112) (by decide +kernel)) rfl
theorem q1_113 : (Cond.fieldLink RX4 45 "PairedTumblers$WordText" "wantsFigure" "Z") ∈ lw_all := lw_in1 (List.mem_of_getElem? (i := 113) (by decide +kernel)) rfl
theorem q1_114 : ((Jvm.Cond.laysFinal "PairedTumblers$WordText" "PairedTumblers$WordText" "sign" "[C")) ∈ lw_all := lw_in1 (List.mem_of_getElem? (i := 114) (by decide +kernel)) rfl
theorem q1_115 : ((Jvm.Cond.soleField "PairedTumblers$WordText" "sign")) ∈ lw_all := lw_in1 (List.mem_of_getElem? (i := 115) (by decide +kernel)) rfl
theorem q1_116 : ((Jvm.Cond.lays "PairedTumblers$WordText" "PairedTumblers$WordText" "length" "I")) ∈ lw_all := lw_in1 (List.mem_of_getElem? (i := 116) (by decide +kernel)) rfl
theorem q1_117 : ((Jvm.Cond.soleField "PairedTumblers$WordText" "length")) ∈ lw_all := lw_in1 (List.mem_of_getElem? (i := 117) (by decide +kernel)) rfl
theorem q1_118 : ((Jvm.Cond.laysFinal "PairedTumblers$WordText" "PairedTumblers$WordText" "moves" "[I")) ∈ lw_all := lw_in1 (List.mem_of_getElem? (i := 118) (by decide +kernel)) rfl
theorem q1_119 : ((Jvm.Cond.soleField "PairedTumblers$WordText" "moves")) ∈ lw_all := lw_in1 (List.mem_of_getElem? (i := 119) (by decide +kernel)) rfl
theorem q1_120 : ((Jvm.Cond.lays "PairedTumblers$WordText" "PairedTumblers$WordText" "total" "I")) ∈ lw_all := lw_in1 (List.mem_of_getElem? (i := 120) (by decide +kernel)) rfl
theorem q1_121 : ((Jvm.Cond.soleField "PairedTumblers$WordText" "total")) ∈ lw_all := lw_in1 (List.mem_of_getElem? (i := 121) (by decide +kernel)) rfl
theorem q1_122 : ((Jvm.Cond.lays "PairedTumblers$WordText" "PairedTumblers$WordText" "complete" "Z")) ∈ lw_all := lw_in1 (List.mem_of_getElem? (i := 122) (by decide +kernel)) rfl
theorem q1_123 : ((Jvm.Cond.soleField "PairedTumblers$WordText" "complete")) ∈ lw_all := lw_in1 (List.mem_of_getElem? (i := 123) (by decide +kernel)) rfl
theorem q1_124 : ((Jvm.Cond.laysFinal "PairedTumblers$WordText" "PairedTumblers$WordText" "kind" "[I")) ∈ lw_all := lw_in1 (List.mem_of_getElem? (i := 124) (by decide +kernel)) rfl
theorem q1_125 : ((Jvm.Cond.soleField "PairedTumblers$WordText" "kind")) ∈ lw_all := lw_in1 (List.mem_of_getElem? (i := 125) (by decide +kernel)) rfl
theorem q1_126 : ((Jvm.Cond.laysFinal "PairedTumblers$WordText" "PairedTumblers$WordText" "begin" "[I")) ∈ lw_all := lw_in1 (List.mem_of_getElem? (i := 126) (by decide +kernel)) rfl
theorem q1_127 : ((Jvm.Cond.soleField "PairedTumblers$WordText" "begin")) ∈ lw_all := lw_in1 (List.mem_of_getElem? (i := 127) (by decide +kernel)) rfl
theorem q1_128 : ((Jvm.Cond.laysFinal "PairedTumblers$WordText" "PairedTumblers$WordText" "middle" "[I")) ∈ lw_all := lw_in1 (List.mem_of_getElem? (i := 128) (by decide +kernel)) rfl
theorem q1_129 : ((Jvm.Cond.soleField "PairedTumblers$WordText" "middle")) ∈ lw_all := lw_in1 (List.mem_of_getElem? (i := 129) (by decide +kernel)) rfl
theorem q1_130 : ((Jvm.Cond.lays "PairedTumblers$WordText" "PairedTumblers$WordText" "open" "I")) ∈ lw_all := lw_in1 (List.mem_of_getElem? (i := 130) (by decide +kernel)) rfl
theorem q1_131 : ((Jvm.Cond.soleField "PairedTumblers$WordText" "open")) ∈ lw_all := lw_in1 (List.mem_of_getElem? (i := 131) (by decide +kernel)) rfl
theorem q1_132 : ((Jvm.Cond.lays "PairedTumblers$WordText" "PairedTumblers$WordText" "hasItem" "Z")) ∈ lw_all := lw_in1 (List.mem_of_getElem? (i := 132) (by decide +kernel)) rfl
theorem q1_133 : ((Jvm.Cond.soleField "PairedTumblers$WordText" "hasItem")) ∈ lw_all := lw_in1 (List.mem_of_getElem? (i := 133) (by decide +kernel)) rfl
theorem q1_134 : ((Jvm.Cond.lays "PairedTumblers$WordText" "PairedTumblers$WordText" "wantsFigure" "Z")) ∈ lw_all := lw_in1 (List.mem_of_getElem? (i := 134) (by decide +kernel)) rfl
theorem q1_135 : ((Jvm.Cond.soleField "PairedTumblers$WordText" "wantsFigure")) ∈ lw_all := lw_in1 (List.mem_of_getElem? (i := 135) (by decide +kernel)) rfl
theorem q1_136 : ((Jvm.Cond.superclass "PairedTumblers$WordText" "java/lang/Object")) ∈ lw_all := lw_in1 (List.mem_of_getElem? (i := 136) (by decide +kernel)) rfl
theorem q1_137 : ((Jvm.Cond.arrayClass Jvm.ClassFile.FieldType.char)) ∈ lw_all := lw_in1 (List.mem_of_getElem? (i := 137) (by decide +kernel)) rfl
theorem q1_138 : (Cond.classLink RX5 38 RX0) ∈ lw_all := lw_in1 (List.mem_of_getElem? (i := 138) (by decide +kernel)) rfl
theorem q1_139 : (Cond.methodLink RX5 40 yX0_init) ∈ lw_all := lw_in1 (List.mem_of_getElem? (i := 139) (by decide +kernel)) rfl
theorem q1_140 : (Cond.classLink RX5 48 RX2) ∈ lw_all := lw_in1 (List.mem_of_getElem? (i := 140) (by decide +kernel)) rfl
theorem q1_141 : (Cond.instantiable RX2 7) ∈ lw_all := lw_in1 (List.mem_of_getElem? (i := 141) (by decide +kernel)) rfl
theorem qn1_142 : (Cond.methodLinkNest RX5 50 yX2_init RX5) ∈ lw_nw := lw_nin1 (List.mem_of_getElem? (i := 142) (by decide +kernel)) rfl
theorem q1_143 : (Cond.instanceMethod yX2_init) ∈ lw_all := lw_in1 (List.mem_of_getElem? (i := 143) (by decide +kernel)) rfl
theorem q1_144 : (Cond.code yX2_init cX2_init 1 none) ∈ lw_all := lw_in1 (List.mem_of_getElem? (i := 144) (by decide +kernel)) rfl
theorem q1_145 : (Cond.methodLink RX2 3 ⟨"java/lang/Object", "<init>", "()V"⟩) ∈ lw_all := lw_in1 (List.mem_of_getElem? (i := 145) (by decide +kernel)) rfl
theorem q1_146 : (Cond.classLink RX2 22 RX0) ∈ lw_all := lw_in1 (List.mem_of_getElem? (i := 146) (by decide +kernel)) rfl
theorem q1_147 : (Cond.methodLink RX2 24 yX0_init) ∈ lw_all := lw_in1 (List.mem_of_getElem? (i := 147) (by decide +kernel)) rfl
theorem q1_148 : (Cond.fieldLink RX2 9 "PairedTumblers$Opener" "near" "[I") ∈ lw_all := lw_in1 (List.mem_of_getElem? (i := 148) (by decide +kernel)) rfl
theorem q1_149 : (Cond.fieldLink RX2 15 "PairedTumblers$Opener" "nearTurns" "[I") ∈ lw_all := lw_in1 (List.mem_of_getElem? (i := 149) (by decide +kernel)) rfl
theorem q1_150 : (Cond.fieldLink RX2 18 "PairedTumblers$Opener" "size" "I") ∈ lw_all := lw_in1 (List.mem_of_getElem? (i := 150) (by decide +kernel)) rfl
theorem q1_151 : (Cond.fieldLink RX2 25 "PairedTumblers$Opener" "one" "LPairedTumblers$Discs;") ∈ lw_all := lw_in1 (List.mem_of_getElem? (i := 151) (by decide +kernel)) rfl
theorem q1_152 : (Cond.fieldLink RX2 29 "PairedTumblers$Opener" "two" "LPairedTumblers$Discs;") ∈ lw_all := lw_in1 (List.mem_of_getElem? (i := 152) (by decide +kernel)) rfl
theorem q1_153 : (Cond.fieldLink RX2 32 "PairedTumblers$Opener" "fewest" "I") ∈ lw_all := lw_in1 (List.mem_of_getElem? (i := 153) (by decide +kernel)) rfl
theorem qn1_154 : (Cond.fieldLinkNest RX5 240 "PairedTumblers$Opener" "fewest" "I" RX5) ∈ lw_nw := lw_nin1 (List.mem_of_getElem? (i := 154) (by decide +kernel)) rfl
theorem q1_155 : (Cond.fieldLink RX2 35 "PairedTumblers$Opener" "first" "I") ∈ lw_all := lw_in1 (List.mem_of_getElem? (i := 155) (by decide +kernel)) rfl
theorem qn1_156 : (Cond.fieldLinkNest RX5 243 "PairedTumblers$Opener" "first" "I" RX5) ∈ lw_nw := lw_nin1 (List.mem_of_getElem? (i := 156) (by decide +kernel)) rfl
theorem q1_157 : ((Jvm.Cond.laysFinal "PairedTumblers$Opener" "PairedTumblers$Opener" "near" "[I")) ∈ lw_all := lw_in1 (List.mem_of_getElem? (i := 157) (by decide +kernel)) rfl
theorem q1_158 : ((Jvm.Cond.soleField "PairedTumblers$Opener" "near")) ∈ lw_all := lw_in1 (List.mem_of_getElem? (i := 158) (by decide +kernel)) rfl
theorem q1_159 : ((Jvm.Cond.laysFinal "PairedTumblers$Opener" "PairedTumblers$Opener" "nearTurns" "[I")) ∈ lw_all := lw_in1 (List.mem_of_getElem? (i := 159) (by decide +kernel)) rfl
theorem q1_160 : ((Jvm.Cond.soleField "PairedTumblers$Opener" "nearTurns")) ∈ lw_all := lw_in1 (List.mem_of_getElem? (i := 160) (by decide +kernel)) rfl
theorem q1_161 : ((Jvm.Cond.lays "PairedTumblers$Opener" "PairedTumblers$Opener" "size" "I")) ∈ lw_all := lw_in1 (List.mem_of_getElem? (i := 161) (by decide +kernel)) rfl
theorem q1_162 : ((Jvm.Cond.soleField "PairedTumblers$Opener" "size")) ∈ lw_all := lw_in1 (List.mem_of_getElem? (i := 162) (by decide +kernel)) rfl
theorem q1_163 : ((Jvm.Cond.laysFinal "PairedTumblers$Opener" "PairedTumblers$Opener" "one" "LPairedTumblers$Discs;")) ∈ lw_all := lw_in1 (List.mem_of_getElem? (i := 163) (by decide +kernel)) rfl
theorem q1_164 : ((Jvm.Cond.soleField "PairedTumblers$Opener" "one")) ∈ lw_all := lw_in1 (List.mem_of_getElem? (i := 164) (by decide +kernel)) rfl
theorem q1_165 : ((Jvm.Cond.laysFinal "PairedTumblers$Opener" "PairedTumblers$Opener" "two" "LPairedTumblers$Discs;")) ∈ lw_all := lw_in1 (List.mem_of_getElem? (i := 165) (by decide +kernel)) rfl
theorem q1_166 : ((Jvm.Cond.soleField "PairedTumblers$Opener" "two")) ∈ lw_all := lw_in1 (List.mem_of_getElem? (i := 166) (by decide +kernel)) rfl
theorem q1_167 : ((Jvm.Cond.lays "PairedTumblers$Opener" "PairedTumblers$Opener" "fewest" "I")) ∈ lw_all := lw_in1 (List.mem_of_getElem? (i := 167) (by decide +kernel)) rfl
theorem q1_168 : ((Jvm.Cond.soleField "PairedTumblers$Opener" "fewest")) ∈ lw_all := lw_in1 (List.mem_of_getElem? (i := 168) (by decide +kernel)) rfl
theorem q1_169 : ((Jvm.Cond.lays "PairedTumblers$Opener" "PairedTumblers$Opener" "first" "I")) ∈ lw_all := lw_in1 (List.mem_of_getElem? (i := 169) (by decide +kernel)) rfl
theorem q1_170 : ((Jvm.Cond.soleField "PairedTumblers$Opener" "first")) ∈ lw_all := lw_in1 (List.mem_of_getElem? (i := 170) (by decide +kernel)) rfl
theorem q1_171 : ((Jvm.Cond.superclass "PairedTumblers$Opener" "java/lang/Object")) ∈ lw_all := lw_in1 (List.mem_of_getElem? (i := 171) (by decide +kernel)) rfl
theorem q1_172 : (Cond.fieldLink RX5 12 "PairedTumblers" "now" "LPairedTumblers$State;") ∈ lw_all := lw_in1 (List.mem_of_getElem? (i := 172) (by decide +kernel)) rfl
theorem q1_173 : (Cond.fieldLink RX5 16 "PairedTumblers" "snapshot" "LPairedTumblers$State;") ∈ lw_all := lw_in1 (List.mem_of_getElem? (i := 173) (by decide +kernel)) rfl
theorem q1_174 : (Cond.fieldLink RX5 19 "PairedTumblers" "hasSnapshot" "Z") ∈ lw_all := lw_in1 (List.mem_of_getElem? (i := 174) (by decide +kernel)) rfl
theorem q1_175 : (Cond.fieldLink RX5 23 "PairedTumblers" "saved" "[LPairedTumblers$State;") ∈ lw_all := lw_in1 (List.mem_of_getElem? (i := 175) (by decide +kernel)) rfl
theorem q1_176 : (Cond.fieldLink RX5 27 "PairedTumblers" "savedCount" "I") ∈ lw_all := lw_in1 (List.mem_of_getElem? (i := 176) (by decide +kernel)) rfl
theorem q1_177 : (Cond.fieldLink RX5 34 "PairedTumblers" "text" "LPairedTumblers$WordText;") ∈ lw_all := lw_in1 (List.mem_of_getElem? (i := 177) (by decide +kernel)) rfl
theorem q1_178 : (Cond.fieldLink RX5 41 "PairedTumblers" "effect" "LPairedTumblers$Discs;") ∈ lw_all := lw_in1 (List.mem_of_getElem? (i := 178) (by decide +kernel)) rfl
theorem q1_179 : (Cond.fieldLink RX5 45 "PairedTumblers" "trial" "LPairedTumblers$Discs;") ∈ lw_all := lw_in1 (List.mem_of_getElem? (i := 179) (by decide +kernel)) rfl
theorem q1_180 : (Cond.fieldLink RX5 51 "PairedTumblers" "opener" "LPairedTumblers$Opener;") ∈ lw_all := lw_in1 (List.mem_of_getElem? (i := 180) (by decide +kernel)) rfl
theorem q1_181 : ((Jvm.Cond.laysFinal "PairedTumblers" "PairedTumblers" "now" "LPairedTumblers$State;")) ∈ lw_all := lw_in1 (List.mem_of_getElem? (i := 181) (by decide +kernel)) rfl
theorem q1_182 : ((Jvm.Cond.soleField "PairedTumblers" "now")) ∈ lw_all := lw_in1 (List.mem_of_getElem? (i := 182) (by decide +kernel)) rfl
theorem q1_183 : ((Jvm.Cond.laysFinal "PairedTumblers" "PairedTumblers" "snapshot" "LPairedTumblers$State;")) ∈ lw_all := lw_in1 (List.mem_of_getElem? (i := 183) (by decide +kernel)) rfl
theorem q1_184 : ((Jvm.Cond.soleField "PairedTumblers" "snapshot")) ∈ lw_all := lw_in1 (List.mem_of_getElem? (i := 184) (by decide +kernel)) rfl
theorem q1_185 : ((Jvm.Cond.lays "PairedTumblers" "PairedTumblers" "hasSnapshot" "Z")) ∈ lw_all := lw_in1 (List.mem_of_getElem? (i := 185) (by decide +kernel)) rfl
theorem q1_186 : ((Jvm.Cond.soleField "PairedTumblers" "hasSnapshot")) ∈ lw_all := lw_in1 (List.mem_of_getElem? (i := 186) (by decide +kernel)) rfl
theorem q1_187 : ((Jvm.Cond.laysFinal "PairedTumblers" "PairedTumblers" "saved" "[LPairedTumblers$State;")) ∈ lw_all := lw_in1 (List.mem_of_getElem? (i := 187) (by decide +kernel)) rfl
theorem q1_188 : ((Jvm.Cond.soleField "PairedTumblers" "saved")) ∈ lw_all := lw_in1 (List.mem_of_getElem? (i := 188) (by decide +kernel)) rfl
theorem q1_189 : ((Jvm.Cond.lays "PairedTumblers" "PairedTumblers" "savedCount" "I")) ∈ lw_all := lw_in1 (List.mem_of_getElem? (i := 189) (by decide +kernel)) rfl
theorem q1_190 : ((Jvm.Cond.soleField "PairedTumblers" "savedCount")) ∈ lw_all := lw_in1 (List.mem_of_getElem? (i := 190) (by decide +kernel)) rfl
theorem q1_191 : ((Jvm.Cond.laysFinal "PairedTumblers" "PairedTumblers" "text" "LPairedTumblers$WordText;")) ∈ lw_all := lw_in1 (List.mem_of_getElem? (i := 191) (by decide +kernel)) rfl
theorem q1_192 : ((Jvm.Cond.soleField "PairedTumblers" "text")) ∈ lw_all := lw_in1 (List.mem_of_getElem? (i := 192) (by decide +kernel)) rfl
theorem q1_193 : ((Jvm.Cond.laysFinal "PairedTumblers" "PairedTumblers" "effect" "LPairedTumblers$Discs;")) ∈ lw_all := lw_in1 (List.mem_of_getElem? (i := 193) (by decide +kernel)) rfl
theorem q1_194 : ((Jvm.Cond.soleField "PairedTumblers" "effect")) ∈ lw_all := lw_in1 (List.mem_of_getElem? (i := 194) (by decide +kernel)) rfl
theorem q1_195 : ((Jvm.Cond.laysFinal "PairedTumblers" "PairedTumblers" "trial" "LPairedTumblers$Discs;")) ∈ lw_all := lw_in1 (List.mem_of_getElem? (i := 195) (by decide +kernel)) rfl
theorem q1_196 : ((Jvm.Cond.soleField "PairedTumblers" "trial")) ∈ lw_all := lw_in1 (List.mem_of_getElem? (i := 196) (by decide +kernel)) rfl
theorem q1_197 : ((Jvm.Cond.laysFinal "PairedTumblers" "PairedTumblers" "opener" "LPairedTumblers$Opener;")) ∈ lw_all := lw_in1 (List.mem_of_getElem? (i := 197) (by decide +kernel)) rfl
theorem q1_198 : ((Jvm.Cond.soleField "PairedTumblers" "opener")) ∈ lw_all := lw_in1 (List.mem_of_getElem? (i := 198) (by decide +kernel)) rfl
theorem q1_199 : ((Jvm.Cond.superclass "PairedTumblers" "java/lang/Object")) ∈ lw_all := lw_in1 (List.mem_of_getElem? (i := 199) (by decide +kernel)) rfl
theorem q1_200 : (Cond.methodLink RL 140 yL_cell) ∈ lw_all := lw_in1 (List.mem_of_getElem? (i := 200) (by decide +kernel)) rfl
theorem q1_201 : (Cond.static yL_cell) ∈ lw_all := lw_in1 (List.mem_of_getElem? (i := 201) (by decide +kernel)) rfl
theorem q1_202 : (Cond.code yL_cell cL_cell 2 (some .int)) ∈ lw_all := lw_in1 (List.mem_of_getElem? (i := 202) (by decide +kernel)) rfl
theorem q1_203 : ((Jvm.Cond.constant "PairedTumblersLaw" (7 : Nat) (1246189591 : Int32))) ∈ lw_all := lw_in1 (List.mem_of_getElem? (i := 203) (by decide +kernel)) rfl
theorem q1_204 : (Cond.methodLink RL 135 yL_undo) ∈ lw_all := lw_in1 (List.mem_of_getElem? (i := 204) (by decide +kernel)) rfl
theorem q1_205 : (Cond.static yL_undo) ∈ lw_all := lw_in1 (List.mem_of_getElem? (i := 205) (by decide +kernel)) rfl
theorem q1_206 : ((Jvm.Cond.codeWith ({ cls := "PairedTumblersLaw", name := "undo", desc := "(LPairedTumblers;)I" } : Jvm.MethodName) method_8_code (3 : Nat) (Option.some Jvm.ClassFile.FieldType.int) [((0 : Nat), (5 : Nat), (8 : Nat), (17 : Nat))])) ∈ lw_all := lw_in1 (List.mem_of_getElem? (i := 206) (by decide +kernel)) rfl
