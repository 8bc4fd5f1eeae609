theorem q4_10 : (Cond.code yX5_goBack cX5_goBack 1 (some .int)) ∈ lw_all := lw_in4 (List.mem_of_getElem? (i := 10) (by decide +kernel)) rfl
theorem q4_12 : (Cond.methodLink RL 117 yL_undo) ∈ lw_all := lw_in4 (List.mem_of_getElem? (i := 12) (by decide +kernel)) rfl
theorem q4_13 : (Cond.static yL_undo) ∈ lw_all := lw_in4 (List.mem_of_getElem? (i := 13) (by decide +kernel)) rfl
theorem q4_14 : ((Jvm.Cond.codeWith ({ cls := "PairedTumblersLaw", name := "undo", desc := "(LPairedTumblers;[J)I" } : Jvm.MethodName) method_10_code (3 : Nat) (Option.some Jvm.ClassFile.FieldType.int) [((0 : Nat), (8 : Nat), (11 : Nat), (15 : Nat))])) ∈ lw_all := lw_in4 (List.mem_of_getElem? (i := 14) (by decide +kernel)) rfl
theorem q4_15 : (Cond.methodLink RL 39 yX5_undo) ∈ lw_all := lw_in4 (List.mem_of_getElem? (i := 15) (by decide +kernel)) rfl
theorem q4_16 : (Cond.instanceMethod yX5_undo) ∈ lw_all := lw_in4 (List.mem_of_getElem? (i := 16) (by decide +kernel)) rfl
theorem q4_17 : (Cond.selects RX5 yX5_undo yX5_undo) ∈ lw_all := lw_in4 (List.mem_of_getElem? (i := 17) (by decide +kernel)) rfl
theorem q4_18 : (Cond.code yX5_undo cX5_undo 2 (some .int)) ∈ lw_all := lw_in4 (List.mem_of_getElem? (i := 18) (by decide +kernel)) rfl
theorem q4_20 : (Cond.methodLink RL 120 yL_at) ∈ lw_all := lw_in4 (List.mem_of_getElem? (i := 20) (by decide +kernel)) rfl
theorem q4_21 : (Cond.static yL_at) ∈ lw_all := lw_in4 (List.mem_of_getElem? (i := 21) (by decide +kernel)) rfl
theorem q4_22 : ((Jvm.Cond.codeWith ({ cls := "PairedTumblersLaw", name := "at", desc := "(LPairedTumblers;II[J)I" } : Jvm.MethodName) method_11_code (5 : Nat) (Option.some Jvm.ClassFile.FieldType.int) [((0 : Nat), (10 : Nat), (13 : Nat), (13 : Nat)), ((0 : Nat), (10 : Nat), (17 : Nat), (24 : Nat))])) ∈ lw_all := lw_in4 (List.mem_of_getElem? (i := 22) (by decide +kernel)) rfl
theorem q4_23 : (Cond.methodLink RL 42 yX5_at) ∈ lw_all := lw_in4 (List.mem_of_getElem? (i := 23) (by decide +kernel)) rfl
theorem q4_24 : (Cond.methodLink RL 124 yL_key) ∈ lw_all := lw_in4 (List.mem_of_getElem? (i := 24) (by decide +kernel)) rfl
theorem q4_25 : (Cond.static yL_key) ∈ lw_all := lw_in4 (List.mem_of_getElem? (i := 25) (by decide +kernel)) rfl
theorem q4_26 : ((Jvm.Cond.codeWith ({ cls := "PairedTumblersLaw", name := "key", desc := "(LPairedTumblers;II[J)I" } : Jvm.MethodName) method_12_code (5 : Nat) (Option.some Jvm.ClassFile.FieldType.int) [((0 : Nat), (10 : Nat), (13 : Nat), (13 : Nat)), ((0 : Nat), (10 : Nat), (17 : Nat), (24 : Nat))])) ∈ lw_all := lw_in4 (List.mem_of_getElem? (i := 26) (by decide +kernel)) rfl
theorem q4_27 : (Cond.methodLink RL 46 yX5_key) ∈ lw_all := lw_in4 (List.mem_of_getElem? (i := 27) (by decide +kernel)) rfl
theorem q4_28 : (Cond.methodLink RL 127 yL_pair) ∈ lw_all := lw_in4 (List.mem_of_getElem? (i := 28) (by decide +kernel)) rfl
theorem q4_29 : (Cond.static yL_pair) ∈ lw_all := lw_in4 (List.mem_of_getElem? (i := 29) (by decide +kernel)) rfl
theorem q4_30 : ((Jvm.Cond.codeWith ({ cls := "PairedTumblersLaw", name := "pair", desc := "(LPairedTumblers;III[J)I" } : Jvm.MethodName) method_13_code (6 : Nat) (Option.some Jvm.ClassFile.FieldType.int) [((0 : Nat), (12 : Nat), (15 : Nat), (13 : Nat)), ((0 : Nat), (12 : Nat), (19 : Nat), (24 : Nat))])) ∈ lw_all := lw_in4 (List.mem_of_getElem? (i := 30) (by decide +kernel)) rfl
theorem q4_31 : (Cond.methodLink RL 49 yX5_pair) ∈ lw_all := lw_in4 (List.mem_of_getElem? (i := 31) (by decide +kernel)) rfl
theorem q4_32 : (Cond.methodLink RL 130 yL_ofWord) ∈ lw_all := lw_in4 (List.mem_of_getElem? (i := 32) (by decide +kernel)) rfl
theorem q4_33 : (Cond.static yL_ofWord) ∈ lw_all := lw_in4 (List.mem_of_getElem? (i := 33) (by decide +kernel)) rfl
theorem q4_34 : ((Jvm.Cond.codeWith ({ cls := "PairedTumblersLaw", name := "ofWord", desc := "(LPairedTumblers;I[J)I" } : Jvm.MethodName) method_14_code (4 : Nat) (Option.some Jvm.ClassFile.FieldType.int) [((0 : Nat), (9 : Nat), (12 : Nat), (24 : Nat))])) ∈ lw_all := lw_in4 (List.mem_of_getElem? (i := 34) (by decide +kernel)) rfl
theorem q4_35 : (Cond.methodLink RL 52 yX5_ofWord) ∈ lw_all := lw_in4 (List.mem_of_getElem? (i := 35) (by decide +kernel)) rfl
theorem q4_36 : (Cond.instanceMethod yX5_ofWord) ∈ lw_all := lw_in4 (List.mem_of_getElem? (i := 36) (by decide +kernel)) rfl
theorem q4_37 : (Cond.selects RX5 yX5_ofWord yX5_ofWord) ∈ lw_all := lw_in4 (List.mem_of_getElem? (i := 37) (by decide +kernel)) rfl
theorem q4_38 : (Cond.code yX5_ofWord cX5_ofWord 2 (some .int)) ∈ lw_all := lw_in4 (List.mem_of_getElem? (i := 38) (by decide +kernel)) rfl
theorem q4_39 : (Cond.methodLink RX5 213 yJ9_min_7cf53) ∈ lw_all := lw_in4 (List.mem_of_getElem? (i := 39) (by decide +kernel)) rfl
theorem q4_40 : (Cond.static yJ9_min_7cf53) ∈ lw_all := lw_in4 (List.mem_of_getElem? (i := 40) (by decide +kernel)) rfl
theorem q4_41 : (Cond.code yJ9_min_7cf53 cJ9_min_7cf53 2 (some .int)) ∈ lw_all := lw_in4 (List.mem_of_getElem? (i := 41) (by decide +kernel)) rfl
theorem q4_42 : (Cond.methodLink RX5 219 yX5_ofShortWord) ∈ lw_all := lw_in4 (List.mem_of_getElem? (i := 42) (by decide +kernel)) rfl
theorem q4_44 : (Cond.instanceMethod yX5_ofShortWord) ∈ lw_all := lw_in4 (List.mem_of_getElem? (i := 44) (by decide +kernel)) rfl
theorem q4_45 : (Cond.code yX5_ofShortWord cX5_ofShortWord 2 (some .int)) ∈ lw_all := lw_in4 (List.mem_of_getElem? (i := 45) (by decide +kernel)) rfl
theorem q4_46 : (Cond.methodLink RX5 317 yX4_turnsLessBacks) ∈ lw_all := lw_in4 (List.mem_of_getElem? (i := 46) (by decide +kernel)) rfl
theorem q4_47 : (Cond.instanceMethod yX4_turnsLessBacks) ∈ lw_all := lw_in4 (List.mem_of_getElem? (i := 47) (by decide +kernel)) rfl
theorem q4_48 : (Cond.selects RX4 yX4_turnsLessBacks yX4_turnsLessBacks) ∈ lw_all := lw_in4 (List.mem_of_getElem? (i := 48) (by decide +kernel)) rfl
theorem q4_49 : (Cond.code yX4_turnsLessBacks cX4_turnsLessBacks 3 (some .int)) ∈ lw_all := lw_in4 (List.mem_of_getElem? (i := 49) (by decide +kernel)) rfl
theorem qn4_50 : (Cond.methodLinkNest RX4 48 yX5_isBack RX5) ∈ lw_nw := lw_nin4 (List.mem_of_getElem? (i := 50) (by decide +kernel)) rfl
theorem q4_51 : (Cond.methodLink RX5 320 yX5_showWord) ∈ lw_all := lw_in4 (List.mem_of_getElem? (i := 51) (by decide +kernel)) rfl
theorem q4_53 : (Cond.instanceMethod yX5_showWord) ∈ lw_all := lw_in4 (List.mem_of_getElem? (i := 53) (by decide +kernel)) rfl
theorem q4_54 : (Cond.code yX5_showWord cX5_showWord 2 none) ∈ lw_all := lw_in4 (List.mem_of_getElem? (i := 54) (by decide +kernel)) rfl
theorem q4_55 : (Cond.methodLink RL 133 yL_count) ∈ lw_all := lw_in4 (List.mem_of_getElem? (i := 55) (by decide +kernel)) rfl
theorem q4_56 : (Cond.static yL_count) ∈ lw_all := lw_in4 (List.mem_of_getElem? (i := 56) (by decide +kernel)) rfl
theorem q4_57 : ((Jvm.Cond.codeWith ({ cls := "PairedTumblersLaw", name := "count", desc := "(LPairedTumblers;I[J)I" } : Jvm.MethodName) method_15_code (4 : Nat) (Option.some Jvm.ClassFile.FieldType.int) [((0 : Nat), (9 : Nat), (12 : Nat), (24 : Nat))])) ∈ lw_all := lw_in4 (List.mem_of_getElem? (i := 57) (by decide +kernel)) rfl
theorem q4_58 : (Cond.methodLink RL 55 yX5_count) ∈ lw_all := lw_in4 (List.mem_of_getElem? (i := 58) (by decide +kernel)) rfl
theorem q4_59 : (Cond.methodLink RL 136 yL_openIn) ∈ lw_all := lw_in4 (List.mem_of_getElem? (i := 59) (by decide +kernel)) rfl
theorem q4_60 : (Cond.static yL_openIn) ∈ lw_all := lw_in4 (List.mem_of_getElem? (i := 60) (by decide +kernel)) rfl
theorem q4_61 : ((Jvm.Cond.codeWith ({ cls := "PairedTumblersLaw", name := "openIn", desc := "(LPairedTumblers;I[J)I" } : Jvm.MethodName) method_16_code (4 : Nat) (Option.some Jvm.ClassFile.FieldType.int) [((0 : Nat), (9 : Nat), (12 : Nat), (24 : Nat))])) ∈ lw_all := lw_in4 (List.mem_of_getElem? (i := 61) (by decide +kernel)) rfl
theorem q4_62 : (Cond.methodLink RL 58 yX5_openIn) ∈ lw_all := lw_in4 (List.mem_of_getElem? (i := 62) (by decide +kernel)) rfl
theorem q4_63 : (Cond.methodLink RL 139 yL_ifTurned) ∈ lw_all := lw_in4 (List.mem_of_getElem? (i := 63) (by decide +kernel)) rfl
theorem q4_64 : (Cond.static yL_ifTurned) ∈ lw_all := lw_in4 (List.mem_of_getElem? (i := 64) (by decide +kernel)) rfl
theorem q4_65 : ((Jvm.Cond.codeWith ({ cls := "PairedTumblersLaw", name := "ifTurned", desc := "(LPairedTumblers;II[J)I" } : Jvm.MethodName) method_17_code (5 : Nat) (Option.some Jvm.ClassFile.FieldType.int) [((0 : Nat), (10 : Nat), (13 : Nat), (13 : Nat)), ((0 : Nat), (10 : Nat), (17 : Nat), (24 : Nat))])) ∈ lw_all := lw_in4 (List.mem_of_getElem? (i := 65) (by decide +kernel)) rfl
theorem q4_66 : (Cond.methodLink RL 61 yX5_ifTurned) ∈ lw_all := lw_in4 (List.mem_of_getElem? (i := 66) (by decide +kernel)) rfl
theorem q4_67 : (Cond.classLink RL 65 RX6) ∈ lw_all := lw_in4 (List.mem_of_getElem? (i := 67) (by decide +kernel)) rfl
theorem q4_68 : (Cond.instantiable RX6 21) ∈ lw_all := lw_in4 (List.mem_of_getElem? (i := 68) (by decide +kernel)) rfl
theorem q4_69 : (Cond.methodLink RL 67 yX6_init) ∈ lw_all := lw_in4 (List.mem_of_getElem? (i := 69) (by decide +kernel)) rfl
theorem q4_70 : (Cond.instanceMethod yX6_init) ∈ lw_all := lw_in4 (List.mem_of_getElem? (i := 70) (by decide +kernel)) rfl
theorem q4_71 : (Cond.code yX6_init cX6_init 2 none) ∈ lw_all := lw_in4 (List.mem_of_getElem? (i := 71) (by decide +kernel)) rfl
theorem q4_72 : (Cond.methodLink RX6 1 ⟨"java/lang/Object", "<init>", "()V"⟩) ∈ lw_all := lw_in4 (List.mem_of_getElem? (i := 72) (by decide +kernel)) rfl
theorem q4_73 : (Cond.fieldLink RX6 46 "PairedTumblersModel" "thrown" "I") ∈ lw_all := lw_in4 (List.mem_of_getElem? (i := 73) (by decide +kernel)) rfl
theorem q4_74 : (Cond.fieldLink RX6 7 "PairedTumblersModel" "z" "[I") ∈ lw_all := lw_in4 (List.mem_of_getElem? (i := 74) (by decide +kernel)) rfl
theorem q4_75 : (Cond.fieldLink RX6 13 "PairedTumblersModel" "aside" "[I") ∈ lw_all := lw_in4 (List.mem_of_getElem? (i := 75) (by decide +kernel)) rfl
theorem q4_76 : (Cond.fieldLink RX6 16 "PairedTumblersModel" "saved" "[I") ∈ lw_all := lw_in4 (List.mem_of_getElem? (i := 76) (by decide +kernel)) rfl
theorem q4_77 : (Cond.fieldLink RX6 54 "PairedTumblersModel" "saves" "I") ∈ lw_all := lw_in4 (List.mem_of_getElem? (i := 77) (by decide +kernel)) rfl
theorem q4_78 : (Cond.fieldLink RX6 19 "PairedTumblersModel" "kept" "[I") ∈ lw_all := lw_in4 (List.mem_of_getElem? (i := 78) (by decide +kernel)) rfl
theorem q4_79 : (Cond.fieldLink RX6 57 "PairedTumblersModel" "isKept" "Z") ∈ lw_all := lw_in4 (List.mem_of_getElem? (i := 79) (by decide +kernel)) rfl
theorem q4_80 : (Cond.fieldLink RX6 22 "PairedTumblersModel" "text" "[I") ∈ lw_all := lw_in4 (List.mem_of_getElem? (i := 80) (by decide +kernel)) rfl
theorem q4_81 : (Cond.fieldLink RX6 113 "PairedTumblersModel" "length" "I") ∈ lw_all := lw_in4 (List.mem_of_getElem? (i := 81) (by decide +kernel)) rfl
theorem q4_82 : (Cond.fieldLink RX6 25 "PairedTumblersModel" "was" "[I") ∈ lw_all := lw_in4 (List.mem_of_getElem? (i := 82) (by decide +kernel)) rfl
theorem q4_83 : (Cond.fieldLink RX6 28 "PairedTumblersModel" "word" "[I") ∈ lw_all := lw_in4 (List.mem_of_getElem? (i := 83) (by decide +kernel)) rfl
theorem q4_84 : (Cond.fieldLink RX6 110 "PairedTumblersModel" "turns" "I") ∈ lw_all := lw_in4 (List.mem_of_getElem? (i := 84) (by decide +kernel)) rfl
theorem q4_85 : (Cond.fieldLink RX6 146 "PairedTumblersModel" "sum" "I") ∈ lw_all := lw_in4 (List.mem_of_getElem? (i := 85) (by decide +kernel)) rfl
theorem q4_86 : (Cond.fieldLink RX6 31 "PairedTumblersModel" "bracket" "[I") ∈ lw_all := lw_in4 (List.mem_of_getElem? (i := 86) (by decide +kernel)) rfl
theorem q4_87 : (Cond.fieldLink RX6 34 "PairedTumblersModel" "begin" "[I") ∈ lw_all := lw_in4 (List.mem_of_getElem? (i := 87) (by decide +kernel)) rfl
theorem q4_88 : (Cond.fieldLink RX6 37 "PairedTumblersModel" "middle" "[I") ∈ lw_all := lw_in4 (List.mem_of_getElem? (i := 88) (by decide +kernel)) rfl
theorem q4_89 : (Cond.fieldLink RX6 40 "PairedTumblersModel" "ahead" "[I") ∈ lw_all := lw_in4 (List.mem_of_getElem? (i := 89) (by decide +kernel)) rfl
theorem q4_90 : (Cond.fieldLink RX6 43 "PairedTumblersModel" "part" "[I") ∈ lw_all := lw_in4 (List.mem_of_getElem? (i := 90) (by decide +kernel)) rfl
theorem q4_91 : (Cond.fieldLink RX6 137 "PairedTumblersModel" "open" "I") ∈ lw_all := lw_in4 (List.mem_of_getElem? (i := 91) (by decide +kernel)) rfl
theorem q4_92 : (Cond.fieldLink RX6 134 "PairedTumblersModel" "isFilled" "Z") ∈ lw_all := lw_in4 (List.mem_of_getElem? (i := 92) (by decide +kernel)) rfl
theorem q4_93 : (Cond.fieldLink RX6 131 "PairedTumblersModel" "needsFigure" "Z") ∈ lw_all := lw_in4 (List.mem_of_getElem? (i := 93) (by decide +kernel)) rfl
theorem q4_94 : ((Jvm.Cond.lays "PairedTumblersModel" "PairedTumblersModel" "thrown" "I")) ∈ lw_all := lw_in4 (List.mem_of_getElem? (i := 94) (by decide +kernel)) rfl
theorem q4_95 : ((Jvm.Cond.soleField "PairedTumblersModel" "thrown")) ∈ lw_all := lw_in4 (List.mem_of_getElem? (i := 95) (by decide +kernel)) rfl
theorem q4_96 : ((Jvm.Cond.laysFinal "PairedTumblersModel" "PairedTumblersModel" "z" "[I")) ∈ lw_all := lw_in4 (List.mem_of_getElem? (i := 96) (by decide +kernel)) rfl
theorem q4_97 : ((Jvm.Cond.soleField "PairedTumblersModel" "z")) ∈ lw_all := lw_in4 (List.mem_of_getElem? (i := 97) (by decide +kernel)) rfl
theorem q4_98 : ((Jvm.Cond.laysFinal "PairedTumblersModel" "PairedTumblersModel" "aside" "[I")) ∈ lw_all := lw_in4 (List.mem_of_getElem? (i := 98) (by decide +kernel)) rfl
theorem q4_99 : ((Jvm.Cond.soleField "PairedTumblersModel" "aside")) ∈ lw_all := lw_in4 (List.mem_of_getElem? (i := 99) (by decide +kernel)) rfl
theorem q4_100 : ((Jvm.Cond.laysFinal "PairedTumblersModel" "PairedTumblersModel" "saved" "[I")) ∈ lw_all := lw_in4 (List.mem_of_getElem? (i := 100) (by decide +kernel)) rfl
theorem q4_101 : ((Jvm.Cond.soleField "PairedTumblersModel" "saved")) ∈ lw_all := lw_in4 (List.mem_of_getElem? (i := 101) (by decide +kernel)) rfl
theorem q4_102 : ((Jvm.Cond.lays "PairedTumblersModel" "PairedTumblersModel" "saves" "I")) ∈ lw_all := lw_in4 (List.mem_of_getElem? (i := 102) (by decide +kernel)) rfl
theorem q4_103 : ((Jvm.Cond.soleField "PairedTumblersModel" "saves")) ∈ lw_all := lw_in4 (List.mem_of_getElem? (i := 103) (by decide +kernel)) rfl
theorem q4_104 : ((Jvm.Cond.laysFinal "PairedTumblersModel" "PairedTumblersModel" "kept" "[I")) ∈ lw_all := lw_in4 (List.mem_of_getElem? (i := 104) (by decide +kernel)) rfl
theorem q4_105 : ((Jvm.Cond.soleField "PairedTumblersModel" "kept")) ∈ lw_all := lw_in4 (List.mem_of_getElem? (i := 105) (by decide +kernel)) rfl
theorem q4_106 : ((Jvm.Cond.lays "PairedTumblersModel" "PairedTumblersModel" "isKept" "Z")) ∈ lw_all := lw_in4 (List.mem_of_getElem? (i := 106) (by decide +kernel)) rfl
theorem q4_107 : ((Jvm.Cond.soleField "PairedTumblersModel" "isKept")) ∈ lw_all := lw_in4 (List.mem_of_getElem? (i := 107) (by decide +kernel)) rfl
theorem q4_108 : ((Jvm.Cond.laysFinal "PairedTumblersModel" "PairedTumblersModel" "text" "[I")) ∈ lw_all := lw_in4 (List.mem_of_getElem? (i := 108) (by decide +kernel)) rfl
theorem q4_109 : ((Jvm.Cond.soleField "PairedTumblersModel" "text")) ∈ lw_all := lw_in4 (List.mem_of_getElem? (i := 109) (by decide +kernel)) rfl
theorem q4_110 : ((Jvm.Cond.lays "PairedTumblersModel" "PairedTumblersModel" "length" "I")) ∈ lw_all := lw_in4 (List.mem_of_getElem? (i := 110) (by decide +kernel)) rfl
theorem q4_111 : ((Jvm.Cond.soleField "PairedTumblersModel" "length")) ∈ lw_all := lw_in4 (List.mem_of_getElem? (i := 111) (by decide +kernel)) rfl
theorem q4_112 : ((Jvm.Cond.laysFinal "PairedTumblersModel" "PairedTumblersModel" "was" "[I")) ∈ lw_all := lw_in4 (List.mem_of_getElem? (i := 112) (by decide +kernel)) rfl
theorem q4_113 : ((Jvm.Cond.soleField "PairedTumblersModel" "was")) ∈ lw_all := lw_in4 (List.mem_of_getElem? (i := 113) (by decide +kernel)) rfl
theorem q4_114 : ((Jvm.Cond.laysFinal "PairedTumblersModel" "PairedTumblersModel" "word" "[I")) ∈ lw_all := lw_in4 (List.mem_of_getElem? (i := 114) (by decide +kernel)) rfl
theorem q4_115 : ((Jvm.Cond.soleField "PairedTumblersModel" "word")) ∈ lw_all := lw_in4 (List.mem_of_getElem? (i := 115) (by decide +kernel)) rfl
theorem q4_116 : ((Jvm.Cond.lays "PairedTumblersModel" "PairedTumblersModel" "turns" "I")) ∈ lw_all := lw_in4 (List.mem_of_getElem? (i := 116) (by decide +kernel)) rfl
theorem q4_117 : ((Jvm.Cond.soleField "PairedTumblersModel" "turns")) ∈ lw_all := lw_in4 (List.mem_of_getElem? (i := 117) (by decide +kernel)) rfl
theorem q4_118 : ((Jvm.Cond.lays "PairedTumblersModel" "PairedTumblersModel" "sum" "I")) ∈ lw_all := lw_in4 (List.mem_of_getElem? (i := 118) (by decide +kernel)) rfl
theorem q4_119 : ((Jvm.Cond.soleField "PairedTumblersModel" "sum")) ∈ lw_all := lw_in4 (List.mem_of_getElem? (i := 119) (by decide +kernel)) rfl
theorem q4_120 : ((Jvm.Cond.laysFinal "PairedTumblersModel" "PairedTumblersModel" "bracket" "[I")) ∈ lw_all := lw_in4 (List.mem_of_getElem? (i := 120) (by decide +kernel)) rfl
theorem q4_121 : ((Jvm.Cond.soleField "PairedTumblersModel" "bracket")) ∈ lw_all := lw_in4 (List.mem_of_getElem? (i := 121) (by decide +kernel)) rfl
theorem q4_122 : ((Jvm.Cond.laysFinal "PairedTumblersModel" "PairedTumblersModel" "begin" "[I")) ∈ lw_all := lw_in4 (List.mem_of_getElem? (i := 122) (by decide +kernel)) rfl
theorem q4_123 : ((Jvm.Cond.soleField "PairedTumblersModel" "begin")) ∈ lw_all := lw_in4 (List.mem_of_getElem? (i := 123) (by decide +kernel)) rfl
theorem q4_124 : ((Jvm.Cond.laysFinal "PairedTumblersModel" "PairedTumblersModel" "middle" "[I")) ∈ lw_all := lw_in4 (List.mem_of_getElem? (i := 124) (by decide +kernel)) rfl
theorem q4_125 : ((Jvm.Cond.soleField "PairedTumblersModel" "middle")) ∈ lw_all := lw_in4 (List.mem_of_getElem? (i := 125) (by decide +kernel)) rfl
theorem q4_126 : ((Jvm.Cond.laysFinal "PairedTumblersModel" "PairedTumblersModel" "ahead" "[I")) ∈ lw_all := lw_in4 (List.mem_of_getElem? (i := 126) (by decide +kernel)) rfl
theorem q4_127 : ((Jvm.Cond.soleField "PairedTumblersModel" "ahead")) ∈ lw_all := lw_in4 (List.mem_of_getElem? (i := 127) (by decide +kernel)) rfl
theorem q4_128 : ((Jvm.Cond.laysFinal "PairedTumblersModel" "PairedTumblersModel" "part" "[I")) ∈ lw_all := lw_in4 (List.mem_of_getElem? (i := 128) (by decide +kernel)) rfl
theorem q4_129 : ((Jvm.Cond.soleField "PairedTumblersModel" "part")) ∈ lw_all := lw_in4 (List.mem_of_getElem? (i := 129) (by decide +kernel)) rfl
theorem q4_130 : ((Jvm.Cond.lays "PairedTumblersModel" "PairedTumblersModel" "open" "I")) ∈ lw_all := lw_in4 (List.mem_of_getElem? (i := 130) (by decide +kernel)) rfl
theorem q4_131 : ((Jvm.Cond.soleField "PairedTumblersModel" "open")) ∈ lw_all := lw_in4 (List.mem_of_getElem? (i := 131) (by decide +kernel)) rfl
theorem q4_132 : ((Jvm.Cond.lays "PairedTumblersModel" "PairedTumblersModel" "isFilled" "Z")) ∈ lw_all := lw_in4 (List.mem_of_getElem? (i := 132) (by decide +kernel)) rfl
theorem q4_133 : ((Jvm.Cond.soleField "PairedTumblersModel" "isFilled")) ∈ lw_all := lw_in4 (List.mem_of_getElem? (i := 133) (by decide +kernel)) rfl
theorem q4_134 : ((Jvm.Cond.lays "PairedTumblersModel" "PairedTumblersModel" "needsFigure" "Z")) ∈ lw_all := lw_in4 (List.mem_of_getElem? (i := 134) (by decide +kernel)) rfl
theorem q4_135 : ((Jvm.Cond.soleField "PairedTumblersModel" "needsFigure")) ∈ lw_all := lw_in4 (List.mem_of_getElem? (i := 135) (by decide +kernel)) rfl
theorem q4_136 : ((Jvm.Cond.superclass "PairedTumblersModel" "java/lang/Object")) ∈ lw_all := lw_in4 (List.mem_of_getElem? (i := 136) (by decide +kernel)) rfl
theorem q4_137 : (Cond.methodLink RL 74 yX6_thrown) ∈ lw_all := lw_in4 (List.mem_of_getElem? (i := 137) (by decide +kernel)) rfl
theorem q4_138 : (Cond.instanceMethod yX6_thrown) ∈ lw_all := lw_in4 (List.mem_of_getElem? (i := 138) (by decide +kernel)) rfl
theorem q4_139 : (Cond.selects RX6 yX6_thrown yX6_thrown) ∈ lw_all := lw_in4 (List.mem_of_getElem? (i := 139) (by decide +kernel)) rfl
theorem q4_140 : (Cond.code yX6_thrown cX6_thrown 1 (some .int)) ∈ lw_all := lw_in4 (List.mem_of_getElem? (i := 140) (by decide +kernel)) rfl
theorem q4_141 : (Cond.methodLink RL 119 yX6_undo) ∈ lw_all := lw_in4 (List.mem_of_getElem? (i := 141) (by decide +kernel)) rfl
theorem q4_142 : (Cond.instanceMethod yX6_undo) ∈ lw_all := lw_in4 (List.mem_of_getElem? (i := 142) (by decide +kernel)) rfl
theorem q4_143 : (Cond.selects RX6 yX6_undo yX6_undo) ∈ lw_all := lw_in4 (List.mem_of_getElem? (i := 143) (by decide +kernel)) rfl
theorem q4_144 : (Cond.code yX6_undo cX6_undo 2 (some .int)) ∈ lw_all := lw_in4 (List.mem_of_getElem? (i := 144) (by decide +kernel)) rfl
theorem q4_145 : (Cond.methodLink RL 113 yX6_keep) ∈ lw_all := lw_in4 (List.mem_of_getElem? (i := 145) (by decide +kernel)) rfl
theorem q4_146 : (Cond.instanceMethod yX6_keep) ∈ lw_all := lw_in4 (List.mem_of_getElem? (i := 146) (by decide +kernel)) rfl
theorem q4_147 : (Cond.selects RX6 yX6_keep yX6_keep) ∈ lw_all := lw_in4 (List.mem_of_getElem? (i := 147) (by decide +kernel)) rfl
theorem q4_148 : (Cond.code yX6_keep cX6_keep 2 (some .int)) ∈ lw_all := lw_in4 (List.mem_of_getElem? (i := 148) (by decide +kernel)) rfl
theorem q4_149 : (Cond.methodLink RL 116 yX6_goBack) ∈ lw_all := lw_in4 (List.mem_of_getElem? (i := 149) (by decide +kernel)) rfl
theorem q4_150 : (Cond.instanceMethod yX6_goBack) ∈ lw_all := lw_in4 (List.mem_of_getElem? (i := 150) (by decide +kernel)) rfl
theorem q4_151 : (Cond.selects RX6 yX6_goBack yX6_goBack) ∈ lw_all := lw_in4 (List.mem_of_getElem? (i := 151) (by decide +kernel)) rfl
theorem q4_152 : (Cond.code yX6_goBack cX6_goBack 2 (some .int)) ∈ lw_all := lw_in4 (List.mem_of_getElem? (i := 152) (by decide +kernel)) rfl
theorem q4_153 : (Cond.methodLink RX6 61 yX6_record) ∈ lw_all := lw_in4 (List.mem_of_getElem? (i := 153) (by decide +kernel)) rfl
theorem q4_155 : (Cond.instanceMethod yX6_record) ∈ lw_all := lw_in4 (List.mem_of_getElem? (i := 155) (by decide +kernel)) rfl
theorem q4_156 : (Cond.code yX6_record cX6_record 2 none) ∈ lw_all := lw_in4 (List.mem_of_getElem? (i := 156) (by decide +kernel)) rfl
theorem q4_157 : (Cond.methodLink RL 73 yX6_turn) ∈ lw_all := lw_in4 (List.mem_of_getElem? (i := 157) (by decide +kernel)) rfl
theorem q4_158 : (Cond.instanceMethod yX6_turn) ∈ lw_all := lw_in4 (List.mem_of_getElem? (i := 158) (by decide +kernel)) rfl
theorem q4_159 : (Cond.selects RX6 yX6_turn yX6_turn) ∈ lw_all := lw_in4 (List.mem_of_getElem? (i := 159) (by decide +kernel)) rfl
theorem q4_160 : (Cond.code yX6_turn cX6_turn 2 (some .int)) ∈ lw_all := lw_in4 (List.mem_of_getElem? (i := 160) (by decide +kernel)) rfl
theorem q4_161 : (Cond.methodLink RX6 101 yX6_turnNow) ∈ lw_all := lw_in4 (List.mem_of_getElem? (i := 161) (by decide +kernel)) rfl
theorem q4_163 : (Cond.instanceMethod yX6_turnNow) ∈ lw_all := lw_in4 (List.mem_of_getElem? (i := 163) (by decide +kernel)) rfl
theorem q4_164 : (Cond.code yX6_turnNow cX6_turnNow 3 (some .int)) ∈ lw_all := lw_in4 (List.mem_of_getElem? (i := 164) (by decide +kernel)) rfl
theorem q4_165 : (Cond.methodLink RX6 92 yX6_isKey) ∈ lw_all := lw_in4 (List.mem_of_getElem? (i := 165) (by decide +kernel)) rfl
theorem q4_166 : (Cond.static yX6_isKey) ∈ lw_all := lw_in4 (List.mem_of_getElem? (i := 166) (by decide +kernel)) rfl
theorem q4_167 : (Cond.code yX6_isKey cX6_isKey 1 (some .boolean)) ∈ lw_all := lw_in4 (List.mem_of_getElem? (i := 167) (by decide +kernel)) rfl
theorem q4_168 : (Cond.methodLink RX6 50 yX6_in) ∈ lw_all := lw_in4 (List.mem_of_getElem? (i := 168) (by decide +kernel)) rfl
theorem q4_169 : (Cond.static yX6_in) ∈ lw_all := lw_in4 (List.mem_of_getElem? (i := 169) (by decide +kernel)) rfl
theorem q4_170 : (Cond.code yX6_in cX6_in 3 (some .boolean)) ∈ lw_all := lw_in4 (List.mem_of_getElem? (i := 170) (by decide +kernel)) rfl
theorem q4_171 : (Cond.methodLink RX6 95 yX6_isStuck) ∈ lw_all := lw_in4 (List.mem_of_getElem? (i := 171) (by decide +kernel)) rfl
theorem q4_173 : (Cond.instanceMethod yX6_isStuck) ∈ lw_all := lw_in4 (List.mem_of_getElem? (i := 173) (by decide +kernel)) rfl
theorem q4_174 : (Cond.code yX6_isStuck cX6_isStuck 4 (some .boolean)) ∈ lw_all := lw_in4 (List.mem_of_getElem? (i := 174) (by decide +kernel)) rfl
theorem q4_175 : (Cond.methodLink RX6 64 yX6_has) ∈ lw_all := lw_in4 (List.mem_of_getElem? (i := 175) (by decide +kernel)) rfl
theorem q4_177 : (Cond.instanceMethod yX6_has) ∈ lw_all := lw_in4 (List.mem_of_getElem? (i := 177) (by decide +kernel)) rfl
theorem q4_178 : (Cond.code yX6_has cX6_has 3 (some .boolean)) ∈ lw_all := lw_in4 (List.mem_of_getElem? (i := 178) (by decide +kernel)) rfl
theorem q4_179 : (Cond.methodLink RX6 98 yX6_countTurn) ∈ lw_all := lw_in4 (List.mem_of_getElem? (i := 179) (by decide +kernel)) rfl
theorem q4_181 : (Cond.instanceMethod yX6_countTurn) ∈ lw_all := lw_in4 (List.mem_of_getElem? (i := 181) (by decide +kernel)) rfl
theorem q4_182 : (Cond.code yX6_countTurn cX6_countTurn 5 none) ∈ lw_all := lw_in4 (List.mem_of_getElem? (i := 182) (by decide +kernel)) rfl
theorem q4_183 : (Cond.methodLink RX6 80 yX6_opens) ∈ lw_all := lw_in4 (List.mem_of_getElem? (i := 183) (by decide +kernel)) rfl
theorem q4_185 : (Cond.instanceMethod yX6_opens) ∈ lw_all := lw_in4 (List.mem_of_getElem? (i := 185) (by decide +kernel)) rfl
theorem q4_186 : (Cond.code yX6_opens cX6_opens 1 (some .boolean)) ∈ lw_all := lw_in4 (List.mem_of_getElem? (i := 186) (by decide +kernel)) rfl
theorem q4_187 : (Cond.methodLink RX6 76 yX6_right) ∈ lw_all := lw_in4 (List.mem_of_getElem? (i := 187) (by decide +kernel)) rfl
theorem q4_189 : (Cond.instanceMethod yX6_right) ∈ lw_all := lw_in4 (List.mem_of_getElem? (i := 189) (by decide +kernel)) rfl
theorem q4_190 : (Cond.code yX6_right cX6_right 3 (some .int)) ∈ lw_all := lw_in4 (List.mem_of_getElem? (i := 190) (by decide +kernel)) rfl
theorem q4_191 : (Cond.methodLink RX6 72 yX6_isRight) ∈ lw_all := lw_in4 (List.mem_of_getElem? (i := 191) (by decide +kernel)) rfl
theorem q4_193 : (Cond.instanceMethod yX6_isRight) ∈ lw_all := lw_in4 (List.mem_of_getElem? (i := 193) (by decide +kernel)) rfl
theorem q4_194 : (Cond.code yX6_isRight cX6_isRight 2 (some .boolean)) ∈ lw_all := lw_in4 (List.mem_of_getElem? (i := 194) (by decide +kernel)) rfl
theorem q4_195 : (Cond.methodLink RX6 84 yX6_doTurn) ∈ lw_all := lw_in4 (List.mem_of_getElem? (i := 195) (by decide +kernel)) rfl
theorem q4_197 : (Cond.instanceMethod yX6_doTurn) ∈ lw_all := lw_in4 (List.mem_of_getElem? (i := 197) (by decide +kernel)) rfl
theorem q4_198 : (Cond.code yX6_doTurn cX6_doTurn 8 none) ∈ lw_all := lw_in4 (List.mem_of_getElem? (i := 198) (by decide +kernel)) rfl
theorem q4_199 : (Cond.methodLink RX6 68 yX6_next) ∈ lw_all := lw_in4 (List.mem_of_getElem? (i := 199) (by decide +kernel)) rfl
theorem q4_201 : (Cond.instanceMethod yX6_next) ∈ lw_all := lw_in4 (List.mem_of_getElem? (i := 201) (by decide +kernel)) rfl
theorem q4_202 : (Cond.code yX6_next cX6_next 4 (some .int)) ∈ lw_all := lw_in4 (List.mem_of_getElem? (i := 202) (by decide +kernel)) rfl
theorem q4_203 : (Cond.methodLink RX6 88 yX6_ones) ∈ lw_all := lw_in4 (List.mem_of_getElem? (i := 203) (by decide +kernel)) rfl
theorem q4_204 : (Cond.static yX6_ones) ∈ lw_all := lw_in4 (List.mem_of_getElem? (i := 204) (by decide +kernel)) rfl
theorem q4_205 : (Cond.code yX6_ones cX6_ones 3 (some .int)) ∈ lw_all := lw_in4 (List.mem_of_getElem? (i := 205) (by decide +kernel)) rfl
theorem q4_206 : (Cond.methodLink RL 79 yX6_back) ∈ lw_all := lw_in4 (List.mem_of_getElem? (i := 206) (by decide +kernel)) rfl
theorem q4_207 : (Cond.instanceMethod yX6_back) ∈ lw_all := lw_in4 (List.mem_of_getElem? (i := 207) (by decide +kernel)) rfl
theorem q4_208 : (Cond.selects RX6 yX6_back yX6_back) ∈ lw_all := lw_in4 (List.mem_of_getElem? (i := 208) (by decide +kernel)) rfl
theorem q4_209 : (Cond.code yX6_back cX6_back 2 (some .int)) ∈ lw_all := lw_in4 (List.mem_of_getElem? (i := 209) (by decide +kernel)) rfl
theorem q4_210 : (Cond.methodLink RL 83 yX6_word) ∈ lw_all := lw_in4 (List.mem_of_getElem? (i := 210) (by decide +kernel)) rfl
theorem q4_211 : (Cond.instanceMethod yX6_word) ∈ lw_all := lw_in4 (List.mem_of_getElem? (i := 211) (by decide +kernel)) rfl
theorem q4_212 : (Cond.selects RX6 yX6_word yX6_word) ∈ lw_all := lw_in4 (List.mem_of_getElem? (i := 212) (by decide +kernel)) rfl
theorem q4_213 : (Cond.code yX6_word cX6_word 2 (some .int)) ∈ lw_all := lw_in4 (List.mem_of_getElem? (i := 213) (by decide +kernel)) rfl
theorem q4_214 : (Cond.methodLink RX6 104 yX6_isWhole) ∈ lw_all := lw_in4 (List.mem_of_getElem? (i := 214) (by decide +kernel)) rfl
theorem q4_216 : (Cond.instanceMethod yX6_isWhole) ∈ lw_all := lw_in4 (List.mem_of_getElem? (i := 216) (by decide +kernel)) rfl
theorem q4_217 : (Cond.code yX6_isWhole cX6_isWhole 1 (some .boolean)) ∈ lw_all := lw_in4 (List.mem_of_getElem? (i := 217) (by decide +kernel)) rfl
theorem q4_218 : (Cond.methodLink RX6 143 yX6_findError) ∈ lw_all := lw_in4 (List.mem_of_getElem? (i := 218) (by decide +kernel)) rfl
theorem q4_220 : (Cond.instanceMethod yX6_findError) ∈ lw_all := lw_in4 (List.mem_of_getElem? (i := 220) (by decide +kernel)) rfl
theorem q4_221 : (Cond.code yX6_findError cX6_findError 2 (some .int)) ∈ lw_all := lw_in4 (List.mem_of_getElem? (i := 221) (by decide +kernel)) rfl
theorem q4_222 : (Cond.methodLink RX6 140 yX6_takeSign) ∈ lw_all := lw_in4 (List.mem_of_getElem? (i := 222) (by decide +kernel)) rfl
theorem q4_224 : (Cond.instanceMethod yX6_takeSign) ∈ lw_all := lw_in4 (List.mem_of_getElem? (i := 224) (by decide +kernel)) rfl
theorem q4_225 : (Cond.code yX6_takeSign cX6_takeSign 3 (some .boolean)) ∈ lw_all := lw_in4 (List.mem_of_getElem? (i := 225) (by decide +kernel)) rfl
theorem q4_226 : (Cond.methodLink RX6 107 yX6_readWord) ∈ lw_all := lw_in4 (List.mem_of_getElem? (i := 226) (by decide +kernel)) rfl
theorem q4_228 : (Cond.instanceMethod yX6_readWord) ∈ lw_all := lw_in4 (List.mem_of_getElem? (i := 228) (by decide +kernel)) rfl
theorem q4_229 : (Cond.code yX6_readWord cX6_readWord 5 (some .int)) ∈ lw_all := lw_in4 (List.mem_of_getElem? (i := 229) (by decide +kernel)) rfl
theorem q4_230 : (Cond.methodLink RX6 152 yX6_addAgain) ∈ lw_all := lw_in4 (List.mem_of_getElem? (i := 230) (by decide +kernel)) rfl
theorem q4_232 : (Cond.instanceMethod yX6_addAgain) ∈ lw_all := lw_in4 (List.mem_of_getElem? (i := 232) (by decide +kernel)) rfl
theorem q4_233 : (Cond.code yX6_addAgain cX6_addAgain 6 none) ∈ lw_all := lw_in4 (List.mem_of_getElem? (i := 233) (by decide +kernel)) rfl
theorem q4_234 : (Cond.methodLink RX6 149 yX6_addTurn) ∈ lw_all := lw_in4 (List.mem_of_getElem? (i := 234) (by decide +kernel)) rfl
theorem q4_236 : (Cond.instanceMethod yX6_addTurn) ∈ lw_all := lw_in4 (List.mem_of_getElem? (i := 236) (by decide +kernel)) rfl
theorem q4_237 : (Cond.code yX6_addTurn cX6_addTurn 2 none) ∈ lw_all := lw_in4 (List.mem_of_getElem? (i := 237) (by decide +kernel)) rfl
theorem q4_238 : (Cond.methodLink RL 87 yX6_home) ∈ lw_all := lw_in4 (List.mem_of_getElem? (i := 238) (by decide +kernel)) rfl
theorem q4_239 : (Cond.instanceMethod yX6_home) ∈ lw_all := lw_in4 (List.mem_of_getElem? (i := 239) (by decide +kernel)) rfl
theorem q5_0 : (Cond.selects RX6 yX6_home yX6_home) ∈ lw_all := lw_in5 (List.mem_of_getElem? (i := 0) (by decide +kernel)) rfl
theorem q5_1 : (Cond.code yX6_home cX6_home 2 (some .int)) ∈ lw_all := lw_in5 (List.mem_of_getElem? (i := 1) (by decide +kernel)) rfl
theorem q5_2 : (Cond.methodLink RX6 116 yX6_away) ∈ lw_all := lw_in5 (List.mem_of_getElem? (i := 2) (by decide +kernel)) rfl
theorem q5_4 : (Cond.instanceMethod yX6_away) ∈ lw_all := lw_in5 (List.mem_of_getElem? (i := 4) (by decide +kernel)) rfl
theorem q5_5 : (Cond.code yX6_away cX6_away 3 (some .int)) ∈ lw_all := lw_in5 (List.mem_of_getElem? (i := 5) (by decide +kernel)) rfl
theorem q5_6 : (Cond.methodLink RX6 119 yX6_toFirst) ∈ lw_all := lw_in5 (List.mem_of_getElem? (i := 6) (by decide +kernel)) rfl
theorem q5_8 : (Cond.instanceMethod yX6_toFirst) ∈ lw_all := lw_in5 (List.mem_of_getElem? (i := 8) (by decide +kernel)) rfl
theorem q5_9 : (Cond.code yX6_toFirst cX6_toFirst 2 none) ∈ lw_all := lw_in5 (List.mem_of_getElem? (i := 9) (by decide +kernel)) rfl
theorem q5_10 : (Cond.methodLink RL 91 yX6_cut) ∈ lw_all := lw_in5 (List.mem_of_getElem? (i := 10) (by decide +kernel)) rfl
theorem q5_11 : (Cond.instanceMethod yX6_cut) ∈ lw_all := lw_in5 (List.mem_of_getElem? (i := 11) (by decide +kernel)) rfl
theorem q5_12 : (Cond.selects RX6 yX6_cut yX6_cut) ∈ lw_all := lw_in5 (List.mem_of_getElem? (i := 12) (by decide +kernel)) rfl
theorem q5_13 : (Cond.code yX6_cut cX6_cut 6 (some .int)) ∈ lw_all := lw_in5 (List.mem_of_getElem? (i := 13) (by decide +kernel)) rfl
theorem q5_14 : (Cond.methodLink RL 94 yX6_stick) ∈ lw_all := lw_in5 (List.mem_of_getElem? (i := 14) (by decide +kernel)) rfl
theorem q5_15 : (Cond.instanceMethod yX6_stick) ∈ lw_all := lw_in5 (List.mem_of_getElem? (i := 15) (by decide +kernel)) rfl
theorem q5_16 : (Cond.selects RX6 yX6_stick yX6_stick) ∈ lw_all := lw_in5 (List.mem_of_getElem? (i := 16) (by decide +kernel)) rfl
theorem q5_17 : (Cond.code yX6_stick cX6_stick 2 (some .int)) ∈ lw_all := lw_in5 (List.mem_of_getElem? (i := 17) (by decide +kernel)) rfl
theorem q5_18 : (Cond.methodLink RX6 122 yX6_isPlace) ∈ lw_all := lw_in5 (List.mem_of_getElem? (i := 18) (by decide +kernel)) rfl
theorem q5_19 : (Cond.static yX6_isPlace) ∈ lw_all := lw_in5 (List.mem_of_getElem? (i := 19) (by decide +kernel)) rfl
theorem q5_20 : (Cond.code yX6_isPlace cX6_isPlace 1 (some .boolean)) ∈ lw_all := lw_in5 (List.mem_of_getElem? (i := 20) (by decide +kernel)) rfl
theorem q5_21 : (Cond.methodLink RX6 125 yX6_stuckKeys) ∈ lw_all := lw_in5 (List.mem_of_getElem? (i := 21) (by decide +kernel)) rfl
theorem q5_23 : (Cond.instanceMethod yX6_stuckKeys) ∈ lw_all := lw_in5 (List.mem_of_getElem? (i := 23) (by decide +kernel)) rfl
theorem q5_24 : (Cond.code yX6_stuckKeys cX6_stuckKeys 3 (some .int)) ∈ lw_all := lw_in5 (List.mem_of_getElem? (i := 24) (by decide +kernel)) rfl
theorem q5_25 : (Cond.methodLink RL 98 yX6_learn) ∈ lw_all := lw_in5 (List.mem_of_getElem? (i := 25) (by decide +kernel)) rfl
theorem q5_26 : (Cond.instanceMethod yX6_learn) ∈ lw_all := lw_in5 (List.mem_of_getElem? (i := 26) (by decide +kernel)) rfl
theorem q5_27 : (Cond.selects RX6 yX6_learn yX6_learn) ∈ lw_all := lw_in5 (List.mem_of_getElem? (i := 27) (by decide +kernel)) rfl
theorem q5_28 : (Cond.code yX6_learn cX6_learn 2 (some .int)) ∈ lw_all := lw_in5 (List.mem_of_getElem? (i := 28) (by decide +kernel)) rfl
theorem q5_29 : (Cond.methodLink RX6 128 yX6_notches) ∈ lw_all := lw_in5 (List.mem_of_getElem? (i := 29) (by decide +kernel)) rfl
theorem q5_31 : (Cond.instanceMethod yX6_notches) ∈ lw_all := lw_in5 (List.mem_of_getElem? (i := 31) (by decide +kernel)) rfl
theorem q5_32 : (Cond.code yX6_notches cX6_notches 3 (some .int)) ∈ lw_all := lw_in5 (List.mem_of_getElem? (i := 32) (by decide +kernel)) rfl
theorem q5_33 : (Cond.methodLink RL 101 yX6_append) ∈ lw_all := lw_in5 (List.mem_of_getElem? (i := 33) (by decide +kernel)) rfl
theorem q5_34 : (Cond.instanceMethod yX6_append) ∈ lw_all := lw_in5 (List.mem_of_getElem? (i := 34) (by decide +kernel)) rfl
theorem q5_35 : (Cond.selects RX6 yX6_append yX6_append) ∈ lw_all := lw_in5 (List.mem_of_getElem? (i := 35) (by decide +kernel)) rfl
theorem q5_36 : (Cond.code yX6_append cX6_append 2 (some .int)) ∈ lw_all := lw_in5 (List.mem_of_getElem? (i := 36) (by decide +kernel)) rfl
theorem q5_37 : (Cond.methodLink RL 105 yX6_clearBuffer) ∈ lw_all := lw_in5 (List.mem_of_getElem? (i := 37) (by decide +kernel)) rfl
theorem q5_38 : (Cond.instanceMethod yX6_clearBuffer) ∈ lw_all := lw_in5 (List.mem_of_getElem? (i := 38) (by decide +kernel)) rfl
theorem q5_39 : (Cond.selects RX6 yX6_clearBuffer yX6_clearBuffer) ∈ lw_all := lw_in5 (List.mem_of_getElem? (i := 39) (by decide +kernel)) rfl
theorem q5_40 : (Cond.code yX6_clearBuffer cX6_clearBuffer 2 (some .int)) ∈ lw_all := lw_in5 (List.mem_of_getElem? (i := 40) (by decide +kernel)) rfl
theorem q5_41 : (Cond.methodLink RL 109 yX6_firstError) ∈ lw_all := lw_in5 (List.mem_of_getElem? (i := 41) (by decide +kernel)) rfl
theorem q5_42 : (Cond.instanceMethod yX6_firstError) ∈ lw_all := lw_in5 (List.mem_of_getElem? (i := 42) (by decide +kernel)) rfl
theorem q5_43 : (Cond.selects RX6 yX6_firstError yX6_firstError) ∈ lw_all := lw_in5 (List.mem_of_getElem? (i := 43) (by decide +kernel)) rfl
theorem q5_44 : (Cond.code yX6_firstError cX6_firstError 1 (some .int)) ∈ lw_all := lw_in5 (List.mem_of_getElem? (i := 44) (by decide +kernel)) rfl
theorem q5_45 : (Cond.methodLink RL 123 yX6_at) ∈ lw_all := lw_in5 (List.mem_of_getElem? (i := 45) (by decide +kernel)) rfl
theorem q5_46 : (Cond.instanceMethod yX6_at) ∈ lw_all := lw_in5 (List.mem_of_getElem? (i := 46) (by decide +kernel)) rfl
theorem q5_47 : (Cond.selects RX6 yX6_at yX6_at) ∈ lw_all := lw_in5 (List.mem_of_getElem? (i := 47) (by decide +kernel)) rfl
theorem q5_48 : (Cond.code yX6_at cX6_at 3 (some .int)) ∈ lw_all := lw_in5 (List.mem_of_getElem? (i := 48) (by decide +kernel)) rfl
theorem q5_49 : (Cond.methodLink RX6 159 yX6_atNow) ∈ lw_all := lw_in5 (List.mem_of_getElem? (i := 49) (by decide +kernel)) rfl
theorem q5_51 : (Cond.instanceMethod yX6_atNow) ∈ lw_all := lw_in5 (List.mem_of_getElem? (i := 51) (by decide +kernel)) rfl
theorem q5_52 : (Cond.code yX6_atNow cX6_atNow 3 (some .int)) ∈ lw_all := lw_in5 (List.mem_of_getElem? (i := 52) (by decide +kernel)) rfl
theorem q5_53 : (Cond.methodLink RX6 156 yX6_keysAt) ∈ lw_all := lw_in5 (List.mem_of_getElem? (i := 53) (by decide +kernel)) rfl
theorem q5_55 : (Cond.instanceMethod yX6_keysAt) ∈ lw_all := lw_in5 (List.mem_of_getElem? (i := 55) (by decide +kernel)) rfl
theorem q5_56 : (Cond.code yX6_keysAt cX6_keysAt 4 (some .int)) ∈ lw_all := lw_in5 (List.mem_of_getElem? (i := 56) (by decide +kernel)) rfl
theorem q5_57 : (Cond.methodLink RL 126 yX6_key) ∈ lw_all := lw_in5 (List.mem_of_getElem? (i := 57) (by decide +kernel)) rfl
theorem q5_58 : (Cond.instanceMethod yX6_key) ∈ lw_all := lw_in5 (List.mem_of_getElem? (i := 58) (by decide +kernel)) rfl
theorem q5_59 : (Cond.selects RX6 yX6_key yX6_key) ∈ lw_all := lw_in5 (List.mem_of_getElem? (i := 59) (by decide +kernel)) rfl
theorem q5_60 : (Cond.code yX6_key cX6_key 3 (some .int)) ∈ lw_all := lw_in5 (List.mem_of_getElem? (i := 60) (by decide +kernel)) rfl
theorem q5_61 : (Cond.methodLink RX6 177 yX6_keyNow) ∈ lw_all := lw_in5 (List.mem_of_getElem? (i := 61) (by decide +kernel)) rfl
theorem q5_63 : (Cond.instanceMethod yX6_keyNow) ∈ lw_all := lw_in5 (List.mem_of_getElem? (i := 63) (by decide +kernel)) rfl
theorem q5_64 : (Cond.code yX6_keyNow cX6_keyNow 3 (some .int)) ∈ lw_all := lw_in5 (List.mem_of_getElem? (i := 64) (by decide +kernel)) rfl
theorem q5_65 : (Cond.methodLink RX6 174 yX6_keyPeriod) ∈ lw_all := lw_in5 (List.mem_of_getElem? (i := 65) (by decide +kernel)) rfl
theorem q5_67 : (Cond.instanceMethod yX6_keyPeriod) ∈ lw_all := lw_in5 (List.mem_of_getElem? (i := 67) (by decide +kernel)) rfl
theorem q5_68 : (Cond.code yX6_keyPeriod cX6_keyPeriod 3 (some .int)) ∈ lw_all := lw_in5 (List.mem_of_getElem? (i := 68) (by decide +kernel)) rfl
theorem q5_69 : (Cond.methodLink RX6 165 yX6_putAside) ∈ lw_all := lw_in5 (List.mem_of_getElem? (i := 69) (by decide +kernel)) rfl
theorem q5_71 : (Cond.instanceMethod yX6_putAside) ∈ lw_all := lw_in5 (List.mem_of_getElem? (i := 71) (by decide +kernel)) rfl
theorem q5_72 : (Cond.code yX6_putAside cX6_putAside 2 none) ∈ lw_all := lw_in5 (List.mem_of_getElem? (i := 72) (by decide +kernel)) rfl
theorem q5_73 : (Cond.methodLink RX6 168 yX6_period) ∈ lw_all := lw_in5 (List.mem_of_getElem? (i := 73) (by decide +kernel)) rfl
theorem q5_75 : (Cond.instanceMethod yX6_period) ∈ lw_all := lw_in5 (List.mem_of_getElem? (i := 75) (by decide +kernel)) rfl
theorem q5_76 : (Cond.code yX6_period cX6_period 8 (some .int)) ∈ lw_all := lw_in5 (List.mem_of_getElem? (i := 76) (by decide +kernel)) rfl
theorem q5_77 : (Cond.methodLink RX6 162 yX6_common) ∈ lw_all := lw_in5 (List.mem_of_getElem? (i := 77) (by decide +kernel)) rfl
theorem q5_78 : (Cond.static yX6_common) ∈ lw_all := lw_in5 (List.mem_of_getElem? (i := 78) (by decide +kernel)) rfl
theorem q5_79 : (Cond.code yX6_common cX6_common 5 (some .int)) ∈ lw_all := lw_in5 (List.mem_of_getElem? (i := 79) (by decide +kernel)) rfl
theorem q5_80 : (Cond.methodLink RX6 171 yX6_putBack) ∈ lw_all := lw_in5 (List.mem_of_getElem? (i := 80) (by decide +kernel)) rfl
theorem q5_82 : (Cond.instanceMethod yX6_putBack) ∈ lw_all := lw_in5 (List.mem_of_getElem? (i := 82) (by decide +kernel)) rfl
theorem q5_83 : (Cond.code yX6_putBack cX6_putBack 2 none) ∈ lw_all := lw_in5 (List.mem_of_getElem? (i := 83) (by decide +kernel)) rfl
theorem q5_84 : (Cond.methodLink RL 129 yX6_pair) ∈ lw_all := lw_in5 (List.mem_of_getElem? (i := 84) (by decide +kernel)) rfl
theorem q5_85 : (Cond.instanceMethod yX6_pair) ∈ lw_all := lw_in5 (List.mem_of_getElem? (i := 85) (by decide +kernel)) rfl
theorem q5_86 : (Cond.selects RX6 yX6_pair yX6_pair) ∈ lw_all := lw_in5 (List.mem_of_getElem? (i := 86) (by decide +kernel)) rfl
theorem q5_87 : (Cond.code yX6_pair cX6_pair 4 (some .int)) ∈ lw_all := lw_in5 (List.mem_of_getElem? (i := 87) (by decide +kernel)) rfl
theorem q5_88 : (Cond.methodLink RX6 183 yX6_pairNow) ∈ lw_all := lw_in5 (List.mem_of_getElem? (i := 88) (by decide +kernel)) rfl
theorem q5_90 : (Cond.instanceMethod yX6_pairNow) ∈ lw_all := lw_in5 (List.mem_of_getElem? (i := 90) (by decide +kernel)) rfl
theorem q5_91 : (Cond.code yX6_pairNow cX6_pairNow 6 (some .int)) ∈ lw_all := lw_in5 (List.mem_of_getElem? (i := 91) (by decide +kernel)) rfl
theorem q5_92 : (Cond.methodLink RX6 180 yX6_reach) ∈ lw_all := lw_in5 (List.mem_of_getElem? (i := 92) (by decide +kernel)) rfl
theorem q5_94 : (Cond.instanceMethod yX6_reach) ∈ lw_all := lw_in5 (List.mem_of_getElem? (i := 94) (by decide +kernel)) rfl
theorem q5_95 : (Cond.code yX6_reach cX6_reach 3 (some .int)) ∈ lw_all := lw_in5 (List.mem_of_getElem? (i := 95) (by decide +kernel)) rfl
theorem q5_96 : (Cond.methodLink RL 132 yX6_ofWord) ∈ lw_all := lw_in5 (List.mem_of_getElem? (i := 96) (by decide +kernel)) rfl
theorem q5_97 : (Cond.instanceMethod yX6_ofWord) ∈ lw_all := lw_in5 (List.mem_of_getElem? (i := 97) (by decide +kernel)) rfl
theorem q5_98 : (Cond.selects RX6 yX6_ofWord yX6_ofWord) ∈ lw_all := lw_in5 (List.mem_of_getElem? (i := 98) (by decide +kernel)) rfl
theorem q5_99 : (Cond.code yX6_ofWord cX6_ofWord 2 (some .int)) ∈ lw_all := lw_in5 (List.mem_of_getElem? (i := 99) (by decide +kernel)) rfl
theorem q5_100 : (Cond.methodLink RX6 190 yX6_wordNow) ∈ lw_all := lw_in5 (List.mem_of_getElem? (i := 100) (by decide +kernel)) rfl
theorem q5_102 : (Cond.instanceMethod yX6_wordNow) ∈ lw_all := lw_in5 (List.mem_of_getElem? (i := 102) (by decide +kernel)) rfl
theorem q5_103 : (Cond.code yX6_wordNow cX6_wordNow 3 (some .int)) ∈ lw_all := lw_in5 (List.mem_of_getElem? (i := 103) (by decide +kernel)) rfl
theorem q5_104 : (Cond.methodLink RX6 187 yX6_countTurns) ∈ lw_all := lw_in5 (List.mem_of_getElem? (i := 104) (by decide +kernel)) rfl
theorem q5_106 : (Cond.instanceMethod yX6_countTurns) ∈ lw_all := lw_in5 (List.mem_of_getElem? (i := 106) (by decide +kernel)) rfl
theorem q5_107 : (Cond.code yX6_countTurns cX6_countTurns 4 (some .int)) ∈ lw_all := lw_in5 (List.mem_of_getElem? (i := 107) (by decide +kernel)) rfl
theorem q5_108 : (Cond.methodLink RL 135 yX6_count) ∈ lw_all := lw_in5 (List.mem_of_getElem? (i := 108) (by decide +kernel)) rfl
theorem q5_109 : (Cond.instanceMethod yX6_count) ∈ lw_all := lw_in5 (List.mem_of_getElem? (i := 109) (by decide +kernel)) rfl
theorem q5_110 : (Cond.selects RX6 yX6_count yX6_count) ∈ lw_all := lw_in5 (List.mem_of_getElem? (i := 110) (by decide +kernel)) rfl
theorem q5_111 : (Cond.code yX6_count cX6_count 2 (some .int)) ∈ lw_all := lw_in5 (List.mem_of_getElem? (i := 111) (by decide +kernel)) rfl
theorem q5_112 : (Cond.methodLink RX6 196 yX6_countNow) ∈ lw_all := lw_in5 (List.mem_of_getElem? (i := 112) (by decide +kernel)) rfl
theorem q5_114 : (Cond.instanceMethod yX6_countNow) ∈ lw_all := lw_in5 (List.mem_of_getElem? (i := 114) (by decide +kernel)) rfl
theorem q5_115 : (Cond.code yX6_countNow cX6_countNow 2 (some .int)) ∈ lw_all := lw_in5 (List.mem_of_getElem? (i := 115) (by decide +kernel)) rfl
theorem q5_116 : (Cond.methodLink RX6 193 yX6_stuckPlaces) ∈ lw_all := lw_in5 (List.mem_of_getElem? (i := 116) (by decide +kernel)) rfl
theorem q5_118 : (Cond.instanceMethod yX6_stuckPlaces) ∈ lw_all := lw_in5 (List.mem_of_getElem? (i := 118) (by decide +kernel)) rfl
theorem q5_119 : (Cond.code yX6_stuckPlaces cX6_stuckPlaces 3 (some .int)) ∈ lw_all := lw_in5 (List.mem_of_getElem? (i := 119) (by decide +kernel)) rfl
theorem q5_120 : (Cond.methodLink RL 138 yX6_openIn) ∈ lw_all := lw_in5 (List.mem_of_getElem? (i := 120) (by decide +kernel)) rfl
theorem q5_121 : (Cond.instanceMethod yX6_openIn) ∈ lw_all := lw_in5 (List.mem_of_getElem? (i := 121) (by decide +kernel)) rfl
theorem q5_122 : (Cond.selects RX6 yX6_openIn yX6_openIn) ∈ lw_all := lw_in5 (List.mem_of_getElem? (i := 122) (by decide +kernel)) rfl
theorem q5_123 : (Cond.code yX6_openIn cX6_openIn 2 (some .int)) ∈ lw_all := lw_in5 (List.mem_of_getElem? (i := 123) (by decide +kernel)) rfl
theorem q5_124 : (Cond.methodLink RX6 205 yX6_findOpen) ∈ lw_all := lw_in5 (List.mem_of_getElem? (i := 124) (by decide +kernel)) rfl
theorem q5_126 : (Cond.instanceMethod yX6_findOpen) ∈ lw_all := lw_in5 (List.mem_of_getElem? (i := 126) (by decide +kernel)) rfl
theorem q5_127 : (Cond.code yX6_findOpen cX6_findOpen 4 (some .int)) ∈ lw_all := lw_in5 (List.mem_of_getElem? (i := 127) (by decide +kernel)) rfl
theorem q5_128 : (Cond.methodLink RX6 199 yX6_power) ∈ lw_all := lw_in5 (List.mem_of_getElem? (i := 128) (by decide +kernel)) rfl
theorem q5_129 : (Cond.static yX6_power) ∈ lw_all := lw_in5 (List.mem_of_getElem? (i := 129) (by decide +kernel)) rfl
theorem q5_130 : (Cond.code yX6_power cX6_power 3 (some .int)) ∈ lw_all := lw_in5 (List.mem_of_getElem? (i := 130) (by decide +kernel)) rfl
theorem q5_131 : (Cond.methodLink RX6 202 yX6_opensBy) ∈ lw_all := lw_in5 (List.mem_of_getElem? (i := 131) (by decide +kernel)) rfl
theorem q5_133 : (Cond.instanceMethod yX6_opensBy) ∈ lw_all := lw_in5 (List.mem_of_getElem? (i := 133) (by decide +kernel)) rfl
theorem q5_134 : (Cond.code yX6_opensBy cX6_opensBy 7 (some .boolean)) ∈ lw_all := lw_in5 (List.mem_of_getElem? (i := 134) (by decide +kernel)) rfl
theorem q5_135 : (Cond.methodLink RL 141 yX6_ifTurned) ∈ lw_all := lw_in5 (List.mem_of_getElem? (i := 135) (by decide +kernel)) rfl
theorem q5_136 : (Cond.instanceMethod yX6_ifTurned) ∈ lw_all := lw_in5 (List.mem_of_getElem? (i := 136) (by decide +kernel)) rfl
theorem q5_137 : (Cond.selects RX6 yX6_ifTurned yX6_ifTurned) ∈ lw_all := lw_in5 (List.mem_of_getElem? (i := 137) (by decide +kernel)) rfl
theorem q5_138 : (Cond.code yX6_ifTurned cX6_ifTurned 3 (some .int)) ∈ lw_all := lw_in5 (List.mem_of_getElem? (i := 138) (by decide +kernel)) rfl
theorem q5_139 : (Cond.methodLink RX6 208 yX6_rightIf) ∈ lw_all := lw_in5 (List.mem_of_getElem? (i := 139) (by decide +kernel)) rfl
theorem q5_141 : (Cond.instanceMethod yX6_rightIf) ∈ lw_all := lw_in5 (List.mem_of_getElem? (i := 141) (by decide +kernel)) rfl
theorem q5_142 : (Cond.code yX6_rightIf cX6_rightIf 4 (some .int)) ∈ lw_all := lw_in5 (List.mem_of_getElem? (i := 142) (by decide +kernel)) rfl
theorem q5_143 : (Cond.methodLink RL 145 yX6_closest) ∈ lw_all := lw_in5 (List.mem_of_getElem? (i := 143) (by decide +kernel)) rfl
theorem q5_144 : (Cond.instanceMethod yX6_closest) ∈ lw_all := lw_in5 (List.mem_of_getElem? (i := 144) (by decide +kernel)) rfl
theorem q5_145 : (Cond.selects RX6 yX6_closest yX6_closest) ∈ lw_all := lw_in5 (List.mem_of_getElem? (i := 145) (by decide +kernel)) rfl
theorem q5_146 : (Cond.code yX6_closest cX6_closest 1 (some .int)) ∈ lw_all := lw_in5 (List.mem_of_getElem? (i := 146) (by decide +kernel)) rfl
theorem q5_147 : (Cond.methodLink RX6 211 yX6_findClosest) ∈ lw_all := lw_in5 (List.mem_of_getElem? (i := 147) (by decide +kernel)) rfl
theorem q5_149 : (Cond.instanceMethod yX6_findClosest) ∈ lw_all := lw_in5 (List.mem_of_getElem? (i := 149) (by decide +kernel)) rfl
theorem q5_150 : (Cond.code yX6_findClosest cX6_findClosest 6 (some .int)) ∈ lw_all := lw_in5 (List.mem_of_getElem? (i := 150) (by decide +kernel)) rfl
theorem q5_151 : (Cond.methodLink RL 150 yX6_openShare) ∈ lw_all := lw_in5 (List.mem_of_getElem? (i := 151) (by decide +kernel)) rfl
theorem q5_152 : (Cond.instanceMethod yX6_openShare) ∈ lw_all := lw_in5 (List.mem_of_getElem? (i := 152) (by decide +kernel)) rfl
theorem q5_153 : (Cond.selects RX6 yX6_openShare yX6_openShare) ∈ lw_all := lw_in5 (List.mem_of_getElem? (i := 153) (by decide +kernel)) rfl
theorem q5_154 : (Cond.code yX6_openShare cX6_openShare 1 (some .double)) ∈ lw_all := lw_in5 (List.mem_of_getElem? (i := 154) (by decide +kernel)) rfl
theorem q5_155 : ((Jvm.Cond.constantDouble "PairedTumblersModel" (214 : Nat) (4618441417868443648 : UInt64))) ∈ lw_all := lw_in5 (List.mem_of_getElem? (i := 155) (by decide +kernel)) rfl
theorem q5_156 : (Cond.methodLink RL 155 yX6_meanNotch) ∈ lw_all := lw_in5 (List.mem_of_getElem? (i := 156) (by decide +kernel)) rfl
theorem q5_157 : (Cond.instanceMethod yX6_meanNotch) ∈ lw_all := lw_in5 (List.mem_of_getElem? (i := 157) (by decide +kernel)) rfl
theorem q5_158 : (Cond.selects RX6 yX6_meanNotch yX6_meanNotch) ∈ lw_all := lw_in5 (List.mem_of_getElem? (i := 158) (by decide +kernel)) rfl
theorem q5_159 : (Cond.code yX6_meanNotch cX6_meanNotch 1 (some .float)) ∈ lw_all := lw_in5 (List.mem_of_getElem? (i := 159) (by decide +kernel)) rfl
theorem q5_160 : ((Jvm.Cond.constantFloat "PairedTumblersModel" (216 : Nat) (1086324736 : UInt32))) ∈ lw_all := lw_in5 (List.mem_of_getElem? (i := 160) (by decide +kernel)) rfl
theorem q5_161 : (Cond.methodLink RL 160 yX6_digest) ∈ lw_all := lw_in5 (List.mem_of_getElem? (i := 161) (by decide +kernel)) rfl
theorem q5_162 : (Cond.instanceMethod yX6_digest) ∈ lw_all := lw_in5 (List.mem_of_getElem? (i := 162) (by decide +kernel)) rfl
theorem q5_163 : (Cond.selects RX6 yX6_digest yX6_digest) ∈ lw_all := lw_in5 (List.mem_of_getElem? (i := 163) (by decide +kernel)) rfl
theorem q5_164 : (Cond.code yX6_digest cX6_digest 5 (some .long)) ∈ lw_all := lw_in5 (List.mem_of_getElem? (i := 164) (by decide +kernel)) rfl
theorem q5_165 : ((Jvm.Cond.constantLong "PairedTumblersModel" (217 : Nat) (3769 : Int64))) ∈ lw_all := lw_in5 (List.mem_of_getElem? (i := 165) (by decide +kernel)) rfl
theorem q5_166 : ((Jvm.Cond.constantLong "PairedTumblersModel" (219 : Nat) (31 : Int64))) ∈ lw_all := lw_in5 (List.mem_of_getElem? (i := 166) (by decide +kernel)) rfl
theorem q5_167 : (Cond.methodLink RX6 221 yJxe99ae_doubleToLongBits_ccdee) ∈ lw_all := lw_in5 (List.mem_of_getElem? (i := 167) (by decide +kernel)) rfl
theorem q5_168 : (Cond.static yJxe99ae_doubleToLongBits_ccdee) ∈ lw_all := lw_in5 (List.mem_of_getElem? (i := 168) (by decide +kernel)) rfl
theorem q5_169 : (Cond.code yJxe99ae_doubleToLongBits_ccdee cJxe99ae_doubleToLongBits_ccdee 2 (some .long)) ∈ lw_all := lw_in5 (List.mem_of_getElem? (i := 169) (by decide +kernel)) rfl
theorem q5_170 : (Cond.methodLink RJxe99ae 122 yJxe99ae_isNaN_b9ae7) ∈ lw_all := lw_in5 (List.mem_of_getElem? (i := 170) (by decide +kernel)) rfl
theorem q5_171 : (Cond.static yJxe99ae_isNaN_b9ae7) ∈ lw_all := lw_in5 (List.mem_of_getElem? (i := 171) (by decide +kernel)) rfl
theorem q5_172 : (Cond.code yJxe99ae_isNaN_b9ae7 cJxe99ae_isNaN_b9ae7 2 (some .boolean)) ∈ lw_all := lw_in5 (List.mem_of_getElem? (i := 172) (by decide +kernel)) rfl
theorem q5_173 : (Cond.methodLink RJxe99ae 134 ⟨"java/lang/Double", "doubleToRawLongBits", "(D)J"⟩) ∈ lw_all := lw_in5 (List.mem_of_getElem? (i := 173) (by decide +kernel)) rfl
theorem q5_174 : (Cond.static ⟨"java/lang/Double", "doubleToRawLongBits", "(D)J"⟩) ∈ lw_all := lw_in5 (List.mem_of_getElem? (i := 174) (by decide +kernel)) rfl
theorem q5_175 : (Cond.native ⟨"java/lang/Double", "doubleToRawLongBits", "(D)J"⟩) ∈ lw_all := lw_in5 (List.mem_of_getElem? (i := 175) (by decide +kernel)) rfl
theorem q5_176 : ((Jvm.Cond.constantLong "java/lang/Double" (137 : Nat) (9221120237041090560 : Int64))) ∈ lw_all := lw_in5 (List.mem_of_getElem? (i := 176) (by decide +kernel)) rfl
theorem q5_177 : (Cond.methodLink RX6 227 yJxf58ca_floatToIntBits_5c35a) ∈ lw_all := lw_in5 (List.mem_of_getElem? (i := 177) (by decide +kernel)) rfl
theorem q5_178 : (Cond.static yJxf58ca_floatToIntBits_5c35a) ∈ lw_all := lw_in5 (List.mem_of_getElem? (i := 178) (by decide +kernel)) rfl
theorem q5_179 : (Cond.code yJxf58ca_floatToIntBits_5c35a cJxf58ca_floatToIntBits_5c35a 1 (some .int)) ∈ lw_all := lw_in5 (List.mem_of_getElem? (i := 179) (by decide +kernel)) rfl
theorem q5_180 : (Cond.methodLink RJxf58ca 59 yJxf58ca_isNaN_12338) ∈ lw_all := lw_in5 (List.mem_of_getElem? (i := 180) (by decide +kernel)) rfl
theorem q5_181 : (Cond.static yJxf58ca_isNaN_12338) ∈ lw_all := lw_in5 (List.mem_of_getElem? (i := 181) (by decide +kernel)) rfl
theorem q5_182 : (Cond.code yJxf58ca_isNaN_12338 cJxf58ca_isNaN_12338 1 (some .boolean)) ∈ lw_all := lw_in5 (List.mem_of_getElem? (i := 182) (by decide +kernel)) rfl
theorem q5_183 : (Cond.methodLink RJxf58ca 74 ⟨"java/lang/Float", "floatToRawIntBits", "(F)I"⟩) ∈ lw_all := lw_in5 (List.mem_of_getElem? (i := 183) (by decide +kernel)) rfl
theorem q5_184 : (Cond.static ⟨"java/lang/Float", "floatToRawIntBits", "(F)I"⟩) ∈ lw_all := lw_in5 (List.mem_of_getElem? (i := 184) (by decide +kernel)) rfl
theorem q5_185 : (Cond.native ⟨"java/lang/Float", "floatToRawIntBits", "(F)I"⟩) ∈ lw_all := lw_in5 (List.mem_of_getElem? (i := 185) (by decide +kernel)) rfl
theorem q5_186 : ((Jvm.Cond.constant "java/lang/Float" (77 : Nat) (2143289344 : Int32))) ∈ lw_all := lw_in5 (List.mem_of_getElem? (i := 186) (by decide +kernel)) rfl
theorem q5_187 : ((Jvm.Cond.arrayClass Jvm.ClassFile.FieldType.long)) ∈ lw_all := lw_in5 (List.mem_of_getElem? (i := 187) (by decide +kernel)) rfl
theorem q5_188 : ((Jvm.Cond.sameMethod "java/lang/Throwable" "java/lang/Throwable" "fillInStackTrace" "(I)Ljava/lang/Throwable;")) ∈ lw_all := lw_in5 (List.mem_of_getElem? (i := 188) (by decide +kernel)) rfl
