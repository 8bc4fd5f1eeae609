theorem q2_201 : (Cond.code yX0_placeOf cX0_placeOf 4 (some .int)) ∈ lw_all := lw_in2 (List.mem_of_getElem? (i := 201) (by decide +kernel)) rfl
theorem q2_202 : (Cond.methodLink RX0 28 yX0_leastMultiple) ∈ lw_all := lw_in2 (List.mem_of_getElem? (i := 202) (by decide +kernel)) rfl
theorem q2_203 : (Cond.static yX0_leastMultiple) ∈ lw_all := lw_in2 (List.mem_of_getElem? (i := 203) (by decide +kernel)) rfl
theorem q2_204 : (Cond.code yX0_leastMultiple cX0_leastMultiple 4 (some .int)) ∈ lw_all := lw_in2 (List.mem_of_getElem? (i := 204) (by decide +kernel)) rfl
theorem q2_205 : (Cond.methodLink RX5 88 yX3_allows) ∈ lw_all := lw_in2 (List.mem_of_getElem? (i := 205) (by decide +kernel)) rfl
theorem q2_206 : (Cond.instanceMethod yX3_allows) ∈ lw_all := lw_in2 (List.mem_of_getElem? (i := 206) (by decide +kernel)) rfl
theorem q2_207 : (Cond.selects RX3 yX3_allows yX3_allows) ∈ lw_all := lw_in2 (List.mem_of_getElem? (i := 207) (by decide +kernel)) rfl
theorem q2_208 : (Cond.code yX3_allows cX3_allows 2 (some .boolean)) ∈ lw_all := lw_in2 (List.mem_of_getElem? (i := 208) (by decide +kernel)) rfl
theorem qn2_209 : (Cond.methodLinkNest RX3 56 yX5_keyOf RX5) ∈ lw_nw := lw_nin2 (List.mem_of_getElem? (i := 209) (by decide +kernel)) rfl
theorem q2_210 : (Cond.methodLink RX3 60 yX1_maskOf) ∈ lw_all := lw_in2 (List.mem_of_getElem? (i := 210) (by decide +kernel)) rfl
theorem q2_211 : (Cond.methodLink RX5 204 yX3_usesOf) ∈ lw_all := lw_in2 (List.mem_of_getElem? (i := 211) (by decide +kernel)) rfl
theorem q2_212 : (Cond.instanceMethod yX3_usesOf) ∈ lw_all := lw_in2 (List.mem_of_getElem? (i := 212) (by decide +kernel)) rfl
theorem q2_213 : (Cond.selects RX3 yX3_usesOf yX3_usesOf) ∈ lw_all := lw_in2 (List.mem_of_getElem? (i := 213) (by decide +kernel)) rfl
theorem q2_214 : (Cond.code yX3_usesOf cX3_usesOf 2 (some .int)) ∈ lw_all := lw_in2 (List.mem_of_getElem? (i := 214) (by decide +kernel)) rfl
theorem q2_216 : (Cond.methodLink RL 153 yL_pair) ∈ lw_all := lw_in2 (List.mem_of_getElem? (i := 216) (by decide +kernel)) rfl
theorem q2_217 : (Cond.static yL_pair) ∈ lw_all := lw_in2 (List.mem_of_getElem? (i := 217) (by decide +kernel)) rfl
theorem q2_218 : ((Jvm.Cond.codeWith ({ cls := "PairedTumblersLaw", name := "pair", desc := "(LPairedTumblers;III)I" } : Jvm.MethodName) method_12_code (6 : Nat) (Option.some Jvm.ClassFile.FieldType.int) [((0 : Nat), (9 : Nat), (12 : Nat), (15 : Nat)), ((0 : Nat), (9 : Nat), (17 : Nat), (26 : Nat))])) ∈ lw_all := lw_in2 (List.mem_of_getElem? (i := 218) (by decide +kernel)) rfl
theorem q2_219 : (Cond.methodLink RL 45 yX5_pair) ∈ lw_all := lw_in2 (List.mem_of_getElem? (i := 219) (by decide +kernel)) rfl
theorem q2_220 : (Cond.instanceMethod yX5_pair) ∈ lw_all := lw_in2 (List.mem_of_getElem? (i := 220) (by decide +kernel)) rfl
theorem q2_221 : (Cond.selects RX5 yX5_pair yX5_pair) ∈ lw_all := lw_in2 (List.mem_of_getElem? (i := 221) (by decide +kernel)) rfl
theorem q2_222 : (Cond.code yX5_pair cX5_pair 4 (some .int)) ∈ lw_all := lw_in2 (List.mem_of_getElem? (i := 222) (by decide +kernel)) rfl
theorem q2_223 : (Cond.methodLink RX5 209 yX5_showPair) ∈ lw_all := lw_in2 (List.mem_of_getElem? (i := 223) (by decide +kernel)) rfl
theorem q2_225 : (Cond.instanceMethod yX5_showPair) ∈ lw_all := lw_in2 (List.mem_of_getElem? (i := 225) (by decide +kernel)) rfl
theorem q2_226 : (Cond.code yX5_showPair cX5_showPair 3 none) ∈ lw_all := lw_in2 (List.mem_of_getElem? (i := 226) (by decide +kernel)) rfl
theorem q2_227 : (Cond.methodLink RX5 105 yJ6_bitCount_0f7a4) ∈ lw_all := lw_in2 (List.mem_of_getElem? (i := 227) (by decide +kernel)) rfl
theorem q2_228 : (Cond.static yJ6_bitCount_0f7a4) ∈ lw_all := lw_in2 (List.mem_of_getElem? (i := 228) (by decide +kernel)) rfl
theorem q2_229 : (Cond.code yJ6_bitCount_0f7a4 cJ6_bitCount_0f7a4 1 (some .int)) ∈ lw_all := lw_in2 (List.mem_of_getElem? (i := 229) (by decide +kernel)) rfl
theorem q2_230 : ((Jvm.Cond.constant "java/lang/Integer" (265 : Nat) (1431655765 : Int32))) ∈ lw_all := lw_in2 (List.mem_of_getElem? (i := 230) (by decide +kernel)) rfl
theorem q2_231 : ((Jvm.Cond.constant "java/lang/Integer" (266 : Nat) (858993459 : Int32))) ∈ lw_all := lw_in2 (List.mem_of_getElem? (i := 231) (by decide +kernel)) rfl
theorem q2_232 : ((Jvm.Cond.constant "java/lang/Integer" (267 : Nat) (252645135 : Int32))) ∈ lw_all := lw_in2 (List.mem_of_getElem? (i := 232) (by decide +kernel)) rfl
theorem q2_233 : (Cond.methodLink RL 155 yL_count) ∈ lw_all := lw_in2 (List.mem_of_getElem? (i := 233) (by decide +kernel)) rfl
theorem q2_234 : (Cond.static yL_count) ∈ lw_all := lw_in2 (List.mem_of_getElem? (i := 234) (by decide +kernel)) rfl
theorem q2_235 : ((Jvm.Cond.codeWith ({ cls := "PairedTumblersLaw", name := "count", desc := "(LPairedTumblers;I)I" } : Jvm.MethodName) method_13_code (4 : Nat) (Option.some Jvm.ClassFile.FieldType.int) [((0 : Nat), (6 : Nat), (9 : Nat), (26 : Nat))])) ∈ lw_all := lw_in2 (List.mem_of_getElem? (i := 235) (by decide +kernel)) rfl
theorem q2_236 : (Cond.methodLink RL 48 yX5_count) ∈ lw_all := lw_in2 (List.mem_of_getElem? (i := 236) (by decide +kernel)) rfl
theorem q2_237 : (Cond.instanceMethod yX5_count) ∈ lw_all := lw_in2 (List.mem_of_getElem? (i := 237) (by decide +kernel)) rfl
theorem q2_238 : (Cond.selects RX5 yX5_count yX5_count) ∈ lw_all := lw_in2 (List.mem_of_getElem? (i := 238) (by decide +kernel)) rfl
theorem q2_239 : (Cond.code yX5_count cX5_count 2 (some .int)) ∈ lw_all := lw_in2 (List.mem_of_getElem? (i := 239) (by decide +kernel)) rfl
theorem q3_0 : (Cond.methodLink RX5 156 yX0_notchSum) ∈ lw_all := lw_in3 (List.mem_of_getElem? (i := 0) (by decide +kernel)) rfl
theorem q3_1 : (Cond.instanceMethod yX0_notchSum) ∈ lw_all := lw_in3 (List.mem_of_getElem? (i := 1) (by decide +kernel)) rfl
theorem q3_2 : (Cond.selects RX0 yX0_notchSum yX0_notchSum) ∈ lw_all := lw_in3 (List.mem_of_getElem? (i := 2) (by decide +kernel)) rfl
theorem q3_3 : (Cond.code yX0_notchSum cX0_notchSum 3 (some .int)) ∈ lw_all := lw_in3 (List.mem_of_getElem? (i := 3) (by decide +kernel)) rfl
theorem q3_4 : (Cond.methodLink RX5 222 yX3_opens) ∈ lw_all := lw_in3 (List.mem_of_getElem? (i := 4) (by decide +kernel)) rfl
theorem q3_5 : (Cond.instanceMethod yX3_opens) ∈ lw_all := lw_in3 (List.mem_of_getElem? (i := 5) (by decide +kernel)) rfl
theorem q3_6 : (Cond.selects RX3 yX3_opens yX3_opens) ∈ lw_all := lw_in3 (List.mem_of_getElem? (i := 6) (by decide +kernel)) rfl
theorem q3_7 : (Cond.code yX3_opens cX3_opens 1 (some .boolean)) ∈ lw_all := lw_in3 (List.mem_of_getElem? (i := 7) (by decide +kernel)) rfl
theorem q3_8 : (Cond.methodLink RX3 71 yX3_asInSecret) ∈ lw_all := lw_in3 (List.mem_of_getElem? (i := 8) (by decide +kernel)) rfl
theorem q3_9 : (Cond.instanceMethod yX3_asInSecret) ∈ lw_all := lw_in3 (List.mem_of_getElem? (i := 9) (by decide +kernel)) rfl
theorem q3_10 : (Cond.selects RX3 yX3_asInSecret yX3_asInSecret) ∈ lw_all := lw_in3 (List.mem_of_getElem? (i := 10) (by decide +kernel)) rfl
theorem q3_11 : (Cond.code yX3_asInSecret cX3_asInSecret 2 (some .int)) ∈ lw_all := lw_in3 (List.mem_of_getElem? (i := 11) (by decide +kernel)) rfl
theorem q3_12 : (Cond.methodLink RX3 67 yX0_agreeing) ∈ lw_all := lw_in3 (List.mem_of_getElem? (i := 12) (by decide +kernel)) rfl
theorem q3_13 : (Cond.instanceMethod yX0_agreeing) ∈ lw_all := lw_in3 (List.mem_of_getElem? (i := 13) (by decide +kernel)) rfl
theorem q3_14 : (Cond.selects RX0 yX0_agreeing yX0_agreeing) ∈ lw_all := lw_in3 (List.mem_of_getElem? (i := 14) (by decide +kernel)) rfl
theorem q3_15 : (Cond.code yX0_agreeing cX0_agreeing 4 (some .int)) ∈ lw_all := lw_in3 (List.mem_of_getElem? (i := 15) (by decide +kernel)) rfl
theorem q3_16 : (Cond.methodLink RX5 226 yX3_asInSecret) ∈ lw_all := lw_in3 (List.mem_of_getElem? (i := 16) (by decide +kernel)) rfl
theorem q3_17 : (Cond.methodLink RX5 143 yX3_stuckKeys) ∈ lw_all := lw_in3 (List.mem_of_getElem? (i := 17) (by decide +kernel)) rfl
theorem q3_18 : (Cond.instanceMethod yX3_stuckKeys) ∈ lw_all := lw_in3 (List.mem_of_getElem? (i := 18) (by decide +kernel)) rfl
theorem q3_19 : (Cond.selects RX3 yX3_stuckKeys yX3_stuckKeys) ∈ lw_all := lw_in3 (List.mem_of_getElem? (i := 19) (by decide +kernel)) rfl
theorem q3_20 : (Cond.code yX3_stuckKeys cX3_stuckKeys 3 (some .int)) ∈ lw_all := lw_in3 (List.mem_of_getElem? (i := 20) (by decide +kernel)) rfl
theorem q3_21 : (Cond.methodLink RX3 63 yX3_allows) ∈ lw_all := lw_in3 (List.mem_of_getElem? (i := 21) (by decide +kernel)) rfl
theorem q3_23 : (Cond.methodLink RL 157 yL_openIn) ∈ lw_all := lw_in3 (List.mem_of_getElem? (i := 23) (by decide +kernel)) rfl
theorem q3_24 : (Cond.static yL_openIn) ∈ lw_all := lw_in3 (List.mem_of_getElem? (i := 24) (by decide +kernel)) rfl
theorem q3_25 : ((Jvm.Cond.codeWith ({ cls := "PairedTumblersLaw", name := "openIn", desc := "(LPairedTumblers;I)I" } : Jvm.MethodName) method_14_code (4 : Nat) (Option.some Jvm.ClassFile.FieldType.int) [((0 : Nat), (6 : Nat), (9 : Nat), (26 : Nat))])) ∈ lw_all := lw_in3 (List.mem_of_getElem? (i := 25) (by decide +kernel)) rfl
theorem q3_26 : (Cond.methodLink RL 51 yX5_openIn) ∈ lw_all := lw_in3 (List.mem_of_getElem? (i := 26) (by decide +kernel)) rfl
theorem q3_27 : (Cond.instanceMethod yX5_openIn) ∈ lw_all := lw_in3 (List.mem_of_getElem? (i := 27) (by decide +kernel)) rfl
theorem q3_28 : (Cond.selects RX5 yX5_openIn yX5_openIn) ∈ lw_all := lw_in3 (List.mem_of_getElem? (i := 28) (by decide +kernel)) rfl
theorem q3_29 : (Cond.code yX5_openIn cX5_openIn 2 (some .int)) ∈ lw_all := lw_in3 (List.mem_of_getElem? (i := 29) (by decide +kernel)) rfl
theorem q3_31 : (Cond.methodLink RX5 237 yX2_search) ∈ lw_all := lw_in3 (List.mem_of_getElem? (i := 31) (by decide +kernel)) rfl
theorem q3_32 : (Cond.instanceMethod yX2_search) ∈ lw_all := lw_in3 (List.mem_of_getElem? (i := 32) (by decide +kernel)) rfl
theorem q3_33 : (Cond.selects RX2 yX2_search yX2_search) ∈ lw_all := lw_in3 (List.mem_of_getElem? (i := 33) (by decide +kernel)) rfl
theorem q3_34 : (Cond.code yX2_search cX2_search 3 none) ∈ lw_all := lw_in3 (List.mem_of_getElem? (i := 34) (by decide +kernel)) rfl
theorem q3_35 : (Cond.methodLink RX2 44 yX3_opens) ∈ lw_all := lw_in3 (List.mem_of_getElem? (i := 35) (by decide +kernel)) rfl
theorem q3_36 : (Cond.methodLink RX2 48 yX2_listNear) ∈ lw_all := lw_in3 (List.mem_of_getElem? (i := 36) (by decide +kernel)) rfl
theorem q3_38 : (Cond.instanceMethod yX2_listNear) ∈ lw_all := lw_in3 (List.mem_of_getElem? (i := 38) (by decide +kernel)) rfl
theorem q3_39 : (Cond.code yX2_listNear cX2_listNear 3 none) ∈ lw_all := lw_in3 (List.mem_of_getElem? (i := 39) (by decide +kernel)) rfl
theorem q3_40 : (Cond.methodLink RX2 88 yX2_list) ∈ lw_all := lw_in3 (List.mem_of_getElem? (i := 40) (by decide +kernel)) rfl
theorem q3_42 : (Cond.instanceMethod yX2_list) ∈ lw_all := lw_in3 (List.mem_of_getElem? (i := 42) (by decide +kernel)) rfl
theorem q3_43 : (Cond.code yX2_list cX2_list 3 none) ∈ lw_all := lw_in3 (List.mem_of_getElem? (i := 43) (by decide +kernel)) rfl
theorem q3_44 : (Cond.methodLink RX2 94 yX0_fingerprint) ∈ lw_all := lw_in3 (List.mem_of_getElem? (i := 44) (by decide +kernel)) rfl
theorem q3_45 : (Cond.instanceMethod yX0_fingerprint) ∈ lw_all := lw_in3 (List.mem_of_getElem? (i := 45) (by decide +kernel)) rfl
theorem q3_46 : (Cond.selects RX0 yX0_fingerprint yX0_fingerprint) ∈ lw_all := lw_in3 (List.mem_of_getElem? (i := 46) (by decide +kernel)) rfl
theorem q3_47 : (Cond.code yX0_fingerprint cX0_fingerprint 3 (some .int)) ∈ lw_all := lw_in3 (List.mem_of_getElem? (i := 47) (by decide +kernel)) rfl
theorem q3_48 : (Cond.methodLink RX2 52 yX3_allows) ∈ lw_all := lw_in3 (List.mem_of_getElem? (i := 48) (by decide +kernel)) rfl
theorem q3_49 : (Cond.methodLink RX2 63 yX0_copyFrom) ∈ lw_all := lw_in3 (List.mem_of_getElem? (i := 49) (by decide +kernel)) rfl
theorem q3_50 : (Cond.methodLink RX2 71 yX1_move) ∈ lw_all := lw_in3 (List.mem_of_getElem? (i := 50) (by decide +kernel)) rfl
theorem q3_51 : (Cond.methodLink RX2 91 yX2_listBehindOne) ∈ lw_all := lw_in3 (List.mem_of_getElem? (i := 51) (by decide +kernel)) rfl
theorem q3_53 : (Cond.instanceMethod yX2_listBehindOne) ∈ lw_all := lw_in3 (List.mem_of_getElem? (i := 53) (by decide +kernel)) rfl
theorem q3_54 : (Cond.code yX2_listBehindOne cX2_listBehindOne 3 none) ∈ lw_all := lw_in3 (List.mem_of_getElem? (i := 54) (by decide +kernel)) rfl
theorem q3_55 : (Cond.methodLink RX2 56 yX2_tryFirst) ∈ lw_all := lw_in3 (List.mem_of_getElem? (i := 55) (by decide +kernel)) rfl
theorem q3_57 : (Cond.instanceMethod yX2_tryFirst) ∈ lw_all := lw_in3 (List.mem_of_getElem? (i := 57) (by decide +kernel)) rfl
theorem q3_58 : (Cond.code yX2_tryFirst cX2_tryFirst 4 none) ∈ lw_all := lw_in3 (List.mem_of_getElem? (i := 58) (by decide +kernel)) rfl
theorem q3_59 : (Cond.methodLink RX2 77 yX2_listedTurns) ∈ lw_all := lw_in3 (List.mem_of_getElem? (i := 59) (by decide +kernel)) rfl
theorem q3_61 : (Cond.instanceMethod yX2_listedTurns) ∈ lw_all := lw_in3 (List.mem_of_getElem? (i := 61) (by decide +kernel)) rfl
theorem q3_62 : (Cond.code yX2_listedTurns cX2_listedTurns 4 (some .int)) ∈ lw_all := lw_in3 (List.mem_of_getElem? (i := 62) (by decide +kernel)) rfl
theorem q3_63 : (Cond.methodLink RX2 81 yX2_meetsList) ∈ lw_all := lw_in3 (List.mem_of_getElem? (i := 63) (by decide +kernel)) rfl
theorem q3_65 : (Cond.instanceMethod yX2_meetsList) ∈ lw_all := lw_in3 (List.mem_of_getElem? (i := 65) (by decide +kernel)) rfl
theorem q3_66 : (Cond.code yX2_meetsList cX2_meetsList 3 (some .boolean)) ∈ lw_all := lw_in3 (List.mem_of_getElem? (i := 66) (by decide +kernel)) rfl
theorem q3_67 : (Cond.methodLink RL 159 yL_ifTurned) ∈ lw_all := lw_in3 (List.mem_of_getElem? (i := 67) (by decide +kernel)) rfl
theorem q3_68 : (Cond.static yL_ifTurned) ∈ lw_all := lw_in3 (List.mem_of_getElem? (i := 68) (by decide +kernel)) rfl
theorem q3_69 : ((Jvm.Cond.codeWith ({ cls := "PairedTumblersLaw", name := "ifTurned", desc := "(LPairedTumblers;II)I" } : Jvm.MethodName) method_15_code (5 : Nat) (Option.some Jvm.ClassFile.FieldType.int) [((0 : Nat), (7 : Nat), (10 : Nat), (15 : Nat)), ((0 : Nat), (7 : Nat), (15 : Nat), (26 : Nat))])) ∈ lw_all := lw_in3 (List.mem_of_getElem? (i := 69) (by decide +kernel)) rfl
theorem q3_70 : (Cond.methodLink RL 54 yX5_ifTurned) ∈ lw_all := lw_in3 (List.mem_of_getElem? (i := 70) (by decide +kernel)) rfl
theorem q3_71 : (Cond.instanceMethod yX5_ifTurned) ∈ lw_all := lw_in3 (List.mem_of_getElem? (i := 71) (by decide +kernel)) rfl
theorem q3_72 : (Cond.selects RX5 yX5_ifTurned yX5_ifTurned) ∈ lw_all := lw_in3 (List.mem_of_getElem? (i := 72) (by decide +kernel)) rfl
theorem q3_73 : (Cond.code yX5_ifTurned cX5_ifTurned 3 (some .int)) ∈ lw_all := lw_in3 (List.mem_of_getElem? (i := 73) (by decide +kernel)) rfl
theorem q3_75 : (Cond.methodLink RL 62 yL_first) ∈ lw_all := lw_in3 (List.mem_of_getElem? (i := 75) (by decide +kernel)) rfl
theorem q3_76 : (Cond.static yL_first) ∈ lw_all := lw_in3 (List.mem_of_getElem? (i := 76) (by decide +kernel)) rfl
theorem q3_77 : (Cond.code yL_first cL_first 2 none) ∈ lw_all := lw_in3 (List.mem_of_getElem? (i := 77) (by decide +kernel)) rfl
theorem q3_78 : (Cond.methodLink RL 127 yL_areKeys) ∈ lw_all := lw_in3 (List.mem_of_getElem? (i := 78) (by decide +kernel)) rfl
theorem q3_79 : (Cond.static yL_areKeys) ∈ lw_all := lw_in3 (List.mem_of_getElem? (i := 79) (by decide +kernel)) rfl
theorem q3_80 : (Cond.code yL_areKeys cL_areKeys 14 (some .boolean)) ∈ lw_all := lw_in3 (List.mem_of_getElem? (i := 80) (by decide +kernel)) rfl
theorem q3_81 : (Cond.methodLink RL 74 yL_period) ∈ lw_all := lw_in3 (List.mem_of_getElem? (i := 81) (by decide +kernel)) rfl
theorem q3_82 : (Cond.static yL_period) ∈ lw_all := lw_in3 (List.mem_of_getElem? (i := 82) (by decide +kernel)) rfl
theorem q3_83 : (Cond.code yL_period cL_period 6 (some .int)) ∈ lw_all := lw_in3 (List.mem_of_getElem? (i := 83) (by decide +kernel)) rfl
theorem q3_84 : (Cond.methodLink RL 66 yL_moved) ∈ lw_all := lw_in3 (List.mem_of_getElem? (i := 84) (by decide +kernel)) rfl
theorem q3_85 : (Cond.static yL_moved) ∈ lw_all := lw_in3 (List.mem_of_getElem? (i := 85) (by decide +kernel)) rfl
theorem q3_86 : (Cond.code yL_moved cL_moved 3 (some .int)) ∈ lw_all := lw_in3 (List.mem_of_getElem? (i := 86) (by decide +kernel)) rfl
theorem q3_87 : (Cond.methodLink RL 70 yL_doTurn) ∈ lw_all := lw_in3 (List.mem_of_getElem? (i := 87) (by decide +kernel)) rfl
theorem q3_88 : (Cond.static yL_doTurn) ∈ lw_all := lw_in3 (List.mem_of_getElem? (i := 88) (by decide +kernel)) rfl
theorem q3_89 : (Cond.code yL_doTurn cL_doTurn 6 none) ∈ lw_all := lw_in3 (List.mem_of_getElem? (i := 89) (by decide +kernel)) rfl
theorem q3_90 : (Cond.methodLink RL 57 yL_step) ∈ lw_all := lw_in3 (List.mem_of_getElem? (i := 90) (by decide +kernel)) rfl
theorem q3_91 : (Cond.static yL_step) ∈ lw_all := lw_in3 (List.mem_of_getElem? (i := 91) (by decide +kernel)) rfl
theorem q3_92 : (Cond.code yL_step cL_step 4 (some .int)) ∈ lw_all := lw_in3 (List.mem_of_getElem? (i := 92) (by decide +kernel)) rfl
theorem q3_93 : (Cond.methodLink RL 78 yL_ones) ∈ lw_all := lw_in3 (List.mem_of_getElem? (i := 93) (by decide +kernel)) rfl
theorem q3_94 : (Cond.static yL_ones) ∈ lw_all := lw_in3 (List.mem_of_getElem? (i := 94) (by decide +kernel)) rfl
theorem q3_95 : (Cond.code yL_ones cL_ones 3 (some .int)) ∈ lw_all := lw_in3 (List.mem_of_getElem? (i := 95) (by decide +kernel)) rfl
theorem q3_96 : (Cond.methodLink RL 81 yX5_closest) ∈ lw_all := lw_in3 (List.mem_of_getElem? (i := 96) (by decide +kernel)) rfl
theorem q3_97 : (Cond.instanceMethod yX5_closest) ∈ lw_all := lw_in3 (List.mem_of_getElem? (i := 97) (by decide +kernel)) rfl
theorem q3_98 : (Cond.selects RX5 yX5_closest yX5_closest) ∈ lw_all := lw_in3 (List.mem_of_getElem? (i := 98) (by decide +kernel)) rfl
theorem q3_99 : (Cond.code yX5_closest cX5_closest 6 (some .int)) ∈ lw_all := lw_in3 (List.mem_of_getElem? (i := 99) (by decide +kernel)) rfl
theorem q3_100 : (Cond.methodLink RL 123 yL_isSo) ∈ lw_all := lw_in3 (List.mem_of_getElem? (i := 100) (by decide +kernel)) rfl
theorem q3_101 : (Cond.static yL_isSo) ∈ lw_all := lw_in3 (List.mem_of_getElem? (i := 101) (by decide +kernel)) rfl
theorem q3_102 : (Cond.code yL_isSo cL_isSo 13 (some .boolean)) ∈ lw_all := lw_in3 (List.mem_of_getElem? (i := 102) (by decide +kernel)) rfl
theorem q3_103 : (Cond.methodLink RL 84 yL_right) ∈ lw_all := lw_in3 (List.mem_of_getElem? (i := 103) (by decide +kernel)) rfl
theorem q3_104 : (Cond.static yL_right) ∈ lw_all := lw_in3 (List.mem_of_getElem? (i := 104) (by decide +kernel)) rfl
theorem q3_105 : (Cond.code yL_right cL_right 5 (some .int)) ∈ lw_all := lw_in3 (List.mem_of_getElem? (i := 105) (by decide +kernel)) rfl
theorem q3_106 : (Cond.methodLink RL 88 yX5_openShare) ∈ lw_all := lw_in3 (List.mem_of_getElem? (i := 106) (by decide +kernel)) rfl
theorem q3_107 : (Cond.instanceMethod yX5_openShare) ∈ lw_all := lw_in3 (List.mem_of_getElem? (i := 107) (by decide +kernel)) rfl
theorem q3_108 : (Cond.selects RX5 yX5_openShare yX5_openShare) ∈ lw_all := lw_in3 (List.mem_of_getElem? (i := 108) (by decide +kernel)) rfl
theorem q3_109 : (Cond.code yX5_openShare cX5_openShare 1 (some .double)) ∈ lw_all := lw_in3 (List.mem_of_getElem? (i := 109) (by decide +kernel)) rfl
theorem q3_110 : ((Jvm.Cond.constantDouble "PairedTumblers" (255 : Nat) (4618441417868443648 : UInt64))) ∈ lw_all := lw_in3 (List.mem_of_getElem? (i := 110) (by decide +kernel)) rfl
theorem q3_111 : ((Jvm.Cond.constantDouble "PairedTumblersLaw" (92 : Nat) (4618441417868443648 : UInt64))) ∈ lw_all := lw_in3 (List.mem_of_getElem? (i := 111) (by decide +kernel)) rfl
theorem q3_112 : (Cond.methodLink RL 94 yX5_meanNotch) ∈ lw_all := lw_in3 (List.mem_of_getElem? (i := 112) (by decide +kernel)) rfl
theorem q3_113 : (Cond.instanceMethod yX5_meanNotch) ∈ lw_all := lw_in3 (List.mem_of_getElem? (i := 113) (by decide +kernel)) rfl
theorem q3_114 : (Cond.selects RX5 yX5_meanNotch yX5_meanNotch) ∈ lw_all := lw_in3 (List.mem_of_getElem? (i := 114) (by decide +kernel)) rfl
theorem q3_115 : (Cond.code yX5_meanNotch cX5_meanNotch 1 (some .float)) ∈ lw_all := lw_in3 (List.mem_of_getElem? (i := 115) (by decide +kernel)) rfl
theorem q3_116 : ((Jvm.Cond.constantFloat "PairedTumblers" (257 : Nat) (1086324736 : UInt32))) ∈ lw_all := lw_in3 (List.mem_of_getElem? (i := 116) (by decide +kernel)) rfl
theorem q3_117 : ((Jvm.Cond.constantFloat "PairedTumblersLaw" (98 : Nat) (1086324736 : UInt32))) ∈ lw_all := lw_in3 (List.mem_of_getElem? (i := 117) (by decide +kernel)) rfl
theorem q3_118 : (Cond.methodLink RL 131 yL_isAhead) ∈ lw_all := lw_in3 (List.mem_of_getElem? (i := 118) (by decide +kernel)) rfl
theorem q3_119 : (Cond.static yL_isAhead) ∈ lw_all := lw_in3 (List.mem_of_getElem? (i := 119) (by decide +kernel)) rfl
theorem q3_120 : (Cond.code yL_isAhead cL_isAhead 16 (some .boolean)) ∈ lw_all := lw_in3 (List.mem_of_getElem? (i := 120) (by decide +kernel)) rfl
theorem q3_121 : (Cond.methodLink RL 99 yL_copy) ∈ lw_all := lw_in3 (List.mem_of_getElem? (i := 121) (by decide +kernel)) rfl
theorem q3_122 : (Cond.static yL_copy) ∈ lw_all := lw_in3 (List.mem_of_getElem? (i := 122) (by decide +kernel)) rfl
theorem q3_123 : (Cond.code yL_copy cL_copy 3 none) ∈ lw_all := lw_in3 (List.mem_of_getElem? (i := 123) (by decide +kernel)) rfl
theorem q3_124 : (Cond.methodLink RL 144 yL_act) ∈ lw_all := lw_in3 (List.mem_of_getElem? (i := 124) (by decide +kernel)) rfl
theorem q3_125 : (Cond.static yL_act) ∈ lw_all := lw_in3 (List.mem_of_getElem? (i := 125) (by decide +kernel)) rfl
theorem q3_126 : (Cond.code yL_act cL_act 12 (some .boolean)) ∈ lw_all := lw_in3 (List.mem_of_getElem? (i := 126) (by decide +kernel)) rfl
theorem q3_127 : (Cond.methodLink RL 103 yL_low) ∈ lw_all := lw_in3 (List.mem_of_getElem? (i := 127) (by decide +kernel)) rfl
theorem q3_128 : (Cond.static yL_low) ∈ lw_all := lw_in3 (List.mem_of_getElem? (i := 128) (by decide +kernel)) rfl
theorem q3_129 : (Cond.code yL_low cL_low 2 (some .int)) ∈ lw_all := lw_in3 (List.mem_of_getElem? (i := 129) (by decide +kernel)) rfl
theorem q3_130 : ((Jvm.Cond.constant "PairedTumblersLaw" (8 : Nat) (2147483647 : Int32))) ∈ lw_all := lw_in3 (List.mem_of_getElem? (i := 130) (by decide +kernel)) rfl
theorem q3_131 : (Cond.methodLink RL 106 yL_turn) ∈ lw_all := lw_in3 (List.mem_of_getElem? (i := 131) (by decide +kernel)) rfl
theorem q3_132 : (Cond.static yL_turn) ∈ lw_all := lw_in3 (List.mem_of_getElem? (i := 132) (by decide +kernel)) rfl
theorem q3_133 : ((Jvm.Cond.codeWith ({ cls := "PairedTumblersLaw", name := "turn", desc := "(LPairedTumblers;I)I" } : Jvm.MethodName) method_4_code (4 : Nat) (Option.some Jvm.ClassFile.FieldType.int) [((0 : Nat), (6 : Nat), (9 : Nat), (15 : Nat)), ((0 : Nat), (6 : Nat), (13 : Nat), (17 : Nat))])) ∈ lw_all := lw_in3 (List.mem_of_getElem? (i := 133) (by decide +kernel)) rfl
theorem q3_134 : (Cond.methodLink RL 9 yX5_turn) ∈ lw_all := lw_in3 (List.mem_of_getElem? (i := 134) (by decide +kernel)) rfl
theorem q3_135 : (Cond.instanceMethod yX5_turn) ∈ lw_all := lw_in3 (List.mem_of_getElem? (i := 135) (by decide +kernel)) rfl
theorem q3_136 : (Cond.selects RX5 yX5_turn yX5_turn) ∈ lw_all := lw_in3 (List.mem_of_getElem? (i := 136) (by decide +kernel)) rfl
theorem q3_137 : (Cond.code yX5_turn cX5_turn 2 (some .int)) ∈ lw_all := lw_in3 (List.mem_of_getElem? (i := 137) (by decide +kernel)) rfl
theorem q3_138 : (Cond.methodLink RX5 55 yX5_turnOnce) ∈ lw_all := lw_in3 (List.mem_of_getElem? (i := 138) (by decide +kernel)) rfl
theorem q3_140 : (Cond.instanceMethod yX5_turnOnce) ∈ lw_all := lw_in3 (List.mem_of_getElem? (i := 140) (by decide +kernel)) rfl
theorem q3_141 : (Cond.code yX5_turnOnce cX5_turnOnce 4 (some .int)) ∈ lw_all := lw_in3 (List.mem_of_getElem? (i := 141) (by decide +kernel)) rfl
theorem q3_143 : (Cond.methodLink RX5 92 yX3_doMove) ∈ lw_all := lw_in3 (List.mem_of_getElem? (i := 143) (by decide +kernel)) rfl
theorem q3_144 : (Cond.instanceMethod yX3_doMove) ∈ lw_all := lw_in3 (List.mem_of_getElem? (i := 144) (by decide +kernel)) rfl
theorem q3_145 : (Cond.selects RX3 yX3_doMove yX3_doMove) ∈ lw_all := lw_in3 (List.mem_of_getElem? (i := 145) (by decide +kernel)) rfl
theorem q3_146 : (Cond.code yX3_doMove cX3_doMove 4 none) ∈ lw_all := lw_in3 (List.mem_of_getElem? (i := 146) (by decide +kernel)) rfl
theorem q3_147 : (Cond.methodLink RX3 74 yX3_opens) ∈ lw_all := lw_in3 (List.mem_of_getElem? (i := 147) (by decide +kernel)) rfl
theorem q3_148 : (Cond.methodLink RX3 78 yX1_move) ∈ lw_all := lw_in3 (List.mem_of_getElem? (i := 148) (by decide +kernel)) rfl
theorem q3_149 : (Cond.methodLink RX3 82 yX1_notchesBy) ∈ lw_all := lw_in3 (List.mem_of_getElem? (i := 149) (by decide +kernel)) rfl
theorem q3_150 : (Cond.instanceMethod yX1_notchesBy) ∈ lw_all := lw_in3 (List.mem_of_getElem? (i := 150) (by decide +kernel)) rfl
theorem q3_151 : (Cond.selects RX1 yX1_notchesBy yX1_notchesBy) ∈ lw_all := lw_in3 (List.mem_of_getElem? (i := 151) (by decide +kernel)) rfl
theorem q3_152 : (Cond.code yX1_notchesBy cX1_notchesBy 4 (some .int)) ∈ lw_all := lw_in3 (List.mem_of_getElem? (i := 152) (by decide +kernel)) rfl
theorem q3_153 : (Cond.methodLink RX1 38 yJ6_bitCount_0f7a4) ∈ lw_all := lw_in3 (List.mem_of_getElem? (i := 153) (by decide +kernel)) rfl
theorem q3_154 : (Cond.methodLink RX3 85 yJ9_floorMod_7cf53) ∈ lw_all := lw_in3 (List.mem_of_getElem? (i := 154) (by decide +kernel)) rfl
theorem q3_155 : (Cond.static yJ9_floorMod_7cf53) ∈ lw_all := lw_in3 (List.mem_of_getElem? (i := 155) (by decide +kernel)) rfl
theorem q3_156 : (Cond.code yJ9_floorMod_7cf53 cJ9_floorMod_7cf53 3 (some .int)) ∈ lw_all := lw_in3 (List.mem_of_getElem? (i := 156) (by decide +kernel)) rfl
theorem q3_157 : (Cond.methodLink RL 109 yL_back) ∈ lw_all := lw_in3 (List.mem_of_getElem? (i := 157) (by decide +kernel)) rfl
theorem q3_158 : (Cond.static yL_back) ∈ lw_all := lw_in3 (List.mem_of_getElem? (i := 158) (by decide +kernel)) rfl
theorem q3_159 : ((Jvm.Cond.codeWith ({ cls := "PairedTumblersLaw", name := "back", desc := "(LPairedTumblers;I)I" } : Jvm.MethodName) method_5_code (4 : Nat) (Option.some Jvm.ClassFile.FieldType.int) [((0 : Nat), (6 : Nat), (9 : Nat), (15 : Nat)), ((0 : Nat), (6 : Nat), (13 : Nat), (17 : Nat))])) ∈ lw_all := lw_in3 (List.mem_of_getElem? (i := 159) (by decide +kernel)) rfl
theorem q3_160 : (Cond.methodLink RL 19 yX5_back) ∈ lw_all := lw_in3 (List.mem_of_getElem? (i := 160) (by decide +kernel)) rfl
theorem q3_161 : (Cond.instanceMethod yX5_back) ∈ lw_all := lw_in3 (List.mem_of_getElem? (i := 161) (by decide +kernel)) rfl
theorem q3_162 : (Cond.selects RX5 yX5_back yX5_back) ∈ lw_all := lw_in3 (List.mem_of_getElem? (i := 162) (by decide +kernel)) rfl
theorem q3_163 : (Cond.code yX5_back cX5_back 2 (some .int)) ∈ lw_all := lw_in3 (List.mem_of_getElem? (i := 163) (by decide +kernel)) rfl
theorem q3_164 : (Cond.methodLink RL 111 yX5_home) ∈ lw_all := lw_in3 (List.mem_of_getElem? (i := 164) (by decide +kernel)) rfl
theorem q3_165 : (Cond.instanceMethod yX5_home) ∈ lw_all := lw_in3 (List.mem_of_getElem? (i := 165) (by decide +kernel)) rfl
theorem q3_166 : (Cond.selects RX5 yX5_home yX5_home) ∈ lw_all := lw_in3 (List.mem_of_getElem? (i := 166) (by decide +kernel)) rfl
theorem q3_167 : (Cond.code yX5_home cX5_home 2 (some .int)) ∈ lw_all := lw_in3 (List.mem_of_getElem? (i := 167) (by decide +kernel)) rfl
theorem q3_168 : (Cond.methodLink RL 114 yL_cut) ∈ lw_all := lw_in3 (List.mem_of_getElem? (i := 168) (by decide +kernel)) rfl
theorem q3_169 : (Cond.static yL_cut) ∈ lw_all := lw_in3 (List.mem_of_getElem? (i := 169) (by decide +kernel)) rfl
theorem q3_170 : ((Jvm.Cond.codeWith ({ cls := "PairedTumblersLaw", name := "cut", desc := "(LPairedTumblers;III)I" } : Jvm.MethodName) method_6_code (6 : Nat) (Option.some Jvm.ClassFile.FieldType.int) [((0 : Nat), (9 : Nat), (12 : Nat), (15 : Nat)), ((0 : Nat), (9 : Nat), (17 : Nat), (26 : Nat))])) ∈ lw_all := lw_in3 (List.mem_of_getElem? (i := 170) (by decide +kernel)) rfl
theorem q3_171 : (Cond.methodLink RL 22 yX5_cut) ∈ lw_all := lw_in3 (List.mem_of_getElem? (i := 171) (by decide +kernel)) rfl
theorem q3_172 : (Cond.instanceMethod yX5_cut) ∈ lw_all := lw_in3 (List.mem_of_getElem? (i := 172) (by decide +kernel)) rfl
theorem q3_173 : (Cond.selects RX5 yX5_cut yX5_cut) ∈ lw_all := lw_in3 (List.mem_of_getElem? (i := 173) (by decide +kernel)) rfl
theorem q3_174 : (Cond.code yX5_cut cX5_cut 5 (some .int)) ∈ lw_all := lw_in3 (List.mem_of_getElem? (i := 174) (by decide +kernel)) rfl
theorem q3_175 : (Cond.methodLink RX5 119 yX5_isKeyMask) ∈ lw_all := lw_in3 (List.mem_of_getElem? (i := 175) (by decide +kernel)) rfl
theorem q3_176 : (Cond.static yX5_isKeyMask) ∈ lw_all := lw_in3 (List.mem_of_getElem? (i := 176) (by decide +kernel)) rfl
theorem q3_177 : (Cond.code yX5_isKeyMask cX5_isKeyMask 1 (some .boolean)) ∈ lw_all := lw_in3 (List.mem_of_getElem? (i := 177) (by decide +kernel)) rfl
theorem q3_179 : (Cond.methodLink RX5 133 yX1_shape) ∈ lw_all := lw_in3 (List.mem_of_getElem? (i := 179) (by decide +kernel)) rfl
theorem q3_180 : (Cond.instanceMethod yX1_shape) ∈ lw_all := lw_in3 (List.mem_of_getElem? (i := 180) (by decide +kernel)) rfl
theorem q3_181 : (Cond.selects RX1 yX1_shape yX1_shape) ∈ lw_all := lw_in3 (List.mem_of_getElem? (i := 181) (by decide +kernel)) rfl
theorem q3_182 : (Cond.code yX1_shape cX1_shape 4 none) ∈ lw_all := lw_in3 (List.mem_of_getElem? (i := 182) (by decide +kernel)) rfl
theorem q3_183 : (Cond.methodLink RL 117 yL_stick) ∈ lw_all := lw_in3 (List.mem_of_getElem? (i := 183) (by decide +kernel)) rfl
theorem q3_184 : (Cond.static yL_stick) ∈ lw_all := lw_in3 (List.mem_of_getElem? (i := 184) (by decide +kernel)) rfl
theorem q3_185 : ((Jvm.Cond.codeWith ({ cls := "PairedTumblersLaw", name := "stick", desc := "(LPairedTumblers;I)I" } : Jvm.MethodName) method_7_code (4 : Nat) (Option.some Jvm.ClassFile.FieldType.int) [((0 : Nat), (6 : Nat), (9 : Nat), (15 : Nat))])) ∈ lw_all := lw_in3 (List.mem_of_getElem? (i := 185) (by decide +kernel)) rfl
theorem q3_186 : (Cond.methodLink RL 28 yX5_stick) ∈ lw_all := lw_in3 (List.mem_of_getElem? (i := 186) (by decide +kernel)) rfl
theorem q3_187 : (Cond.instanceMethod yX5_stick) ∈ lw_all := lw_in3 (List.mem_of_getElem? (i := 187) (by decide +kernel)) rfl
theorem q3_188 : (Cond.selects RX5 yX5_stick yX5_stick) ∈ lw_all := lw_in3 (List.mem_of_getElem? (i := 188) (by decide +kernel)) rfl
theorem q3_189 : (Cond.code yX5_stick cX5_stick 2 (some .int)) ∈ lw_all := lw_in3 (List.mem_of_getElem? (i := 189) (by decide +kernel)) rfl
theorem q3_190 : (Cond.methodLink RL 119 yX5_learn) ∈ lw_all := lw_in3 (List.mem_of_getElem? (i := 190) (by decide +kernel)) rfl
theorem q3_191 : (Cond.instanceMethod yX5_learn) ∈ lw_all := lw_in3 (List.mem_of_getElem? (i := 191) (by decide +kernel)) rfl
theorem q3_192 : (Cond.selects RX5 yX5_learn yX5_learn) ∈ lw_all := lw_in3 (List.mem_of_getElem? (i := 192) (by decide +kernel)) rfl
theorem q3_193 : (Cond.code yX5_learn cX5_learn 1 (some .int)) ∈ lw_all := lw_in3 (List.mem_of_getElem? (i := 193) (by decide +kernel)) rfl
theorem q3_194 : ((Jvm.Cond.sameMethod "java/lang/Throwable" "java/lang/Throwable" "fillInStackTrace" "(I)Ljava/lang/Throwable;")) ∈ lw_all := lw_in3 (List.mem_of_getElem? (i := 194) (by decide +kernel)) rfl
