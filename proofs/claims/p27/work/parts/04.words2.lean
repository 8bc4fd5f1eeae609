theorem q1_207 : (Cond.classLink RL 17 "java/lang/IllegalStateException") ∈ lw_all := lw_in1 (List.mem_of_getElem? (i := 207) (by decide +kernel)) rfl
theorem q1_208 : (Cond.methodLink RL 31 yX5_undo) ∈ lw_all := lw_in1 (List.mem_of_getElem? (i := 208) (by decide +kernel)) rfl
theorem q1_209 : (Cond.instanceMethod yX5_undo) ∈ lw_all := lw_in1 (List.mem_of_getElem? (i := 209) (by decide +kernel)) rfl
theorem q1_210 : (Cond.selects RX5 yX5_undo yX5_undo) ∈ lw_all := lw_in1 (List.mem_of_getElem? (i := 210) (by decide +kernel)) rfl
theorem q1_211 : (Cond.code yX5_undo cX5_undo 2 (some .int)) ∈ lw_all := lw_in1 (List.mem_of_getElem? (i := 211) (by decide +kernel)) rfl
theorem q1_212 : (Cond.classLink RX5 76 "java/lang/IllegalStateException") ∈ lw_all := lw_in1 (List.mem_of_getElem? (i := 212) (by decide +kernel)) rfl
theorem q1_213 : (Cond.instantiable "java/lang/IllegalStateException" 6) ∈ lw_all := lw_in1 (List.mem_of_getElem? (i := 213) (by decide +kernel)) rfl
theorem qn1_214 : ((Jvm.Cond.castable "java/lang/IllegalStateException" "java/lang/IllegalStateException")) ∈ lw_nw := lw_nin1 (List.mem_of_getElem? (i := 214) (by decide +kernel)) rfl
theorem qn1_215 : (Cond.declares ⟨"java/lang/RuntimeException", "<init>", "()V"⟩) ∈ lw_nw := lw_nin1 (List.mem_of_getElem? (i := 215) (by decide +kernel)) rfl
theorem qn1_216 : (Cond.declares ⟨"java/lang/RuntimeException", "<init>", "(Ljava/lang/String;)V"⟩) ∈ lw_nw := lw_nin1 (List.mem_of_getElem? (i := 216) (by decide +kernel)) rfl
theorem qn1_217 : (Cond.declares ⟨"java/lang/Exception", "<init>", "()V"⟩) ∈ lw_nw := lw_nin1 (List.mem_of_getElem? (i := 217) (by decide +kernel)) rfl
theorem qn1_218 : (Cond.declares ⟨"java/lang/Exception", "<init>", "(Ljava/lang/String;)V"⟩) ∈ lw_nw := lw_nin1 (List.mem_of_getElem? (i := 218) (by decide +kernel)) rfl
theorem qn1_219 : (Cond.declares ⟨"java/lang/Throwable", "<init>", "()V"⟩) ∈ lw_nw := lw_nin1 (List.mem_of_getElem? (i := 219) (by decide +kernel)) rfl
theorem qn1_220 : (Cond.declares ⟨"java/lang/Throwable", "<init>", "(Ljava/lang/String;)V"⟩) ∈ lw_nw := lw_nin1 (List.mem_of_getElem? (i := 220) (by decide +kernel)) rfl
theorem q1_221 : (Cond.selects "java/lang/IllegalStateException" ⟨"java/lang/Throwable", "fillInStackTrace", "(I)Ljava/lang/Throwable;"⟩ ⟨"java/lang/Throwable", "fillInStackTrace", "(I)Ljava/lang/Throwable;"⟩) ∈ lw_all := lw_in1 (List.mem_of_getElem? (i := 221) (by decide +kernel)) rfl
theorem q1_222 : (Cond.selects "java/lang/IllegalStateException" ⟨"java/lang/Throwable", "fillInStackTrace", "()Ljava/lang/Throwable;"⟩ ⟨"java/lang/Throwable", "fillInStackTrace", "()Ljava/lang/Throwable;"⟩) ∈ lw_all := lw_in1 (List.mem_of_getElem? (i := 222) (by decide +kernel)) rfl
theorem q1_223 : ((Jvm.Cond.lays "java/lang/IllegalStateException" "java/lang/Throwable" "cause" "Ljava/lang/Throwable;")) ∈ lw_all := lw_in1 (List.mem_of_getElem? (i := 223) (by decide +kernel)) rfl
theorem q1_224 : ((Jvm.Cond.lays "java/lang/Throwable" "java/lang/Throwable" "cause" "Ljava/lang/Throwable;")) ∈ lw_all := lw_in1 (List.mem_of_getElem? (i := 224) (by decide +kernel)) rfl
theorem q1_225 : ((Jvm.Cond.lays "java/lang/IllegalStateException" "java/lang/Throwable" "stackTrace" "[Ljava/lang/StackTraceElement;")) ∈ lw_all := lw_in1 (List.mem_of_getElem? (i := 225) (by decide +kernel)) rfl
theorem q1_226 : ((Jvm.Cond.lays "java/lang/Throwable" "java/lang/Throwable" "stackTrace" "[Ljava/lang/StackTraceElement;")) ∈ lw_all := lw_in1 (List.mem_of_getElem? (i := 226) (by decide +kernel)) rfl
theorem q1_227 : ((Jvm.Cond.lays "java/lang/IllegalStateException" "java/lang/Throwable" "suppressedExceptions" "Ljava/util/List;")) ∈ lw_all := lw_in1 (List.mem_of_getElem? (i := 227) (by decide +kernel)) rfl
theorem q1_228 : ((Jvm.Cond.lays "java/lang/Throwable" "java/lang/Throwable" "suppressedExceptions" "Ljava/util/List;")) ∈ lw_all := lw_in1 (List.mem_of_getElem? (i := 228) (by decide +kernel)) rfl
theorem q1_229 : ((Jvm.Cond.lays "java/lang/IllegalStateException" "java/lang/Throwable" "detailMessage" "Ljava/lang/String;")) ∈ lw_all := lw_in1 (List.mem_of_getElem? (i := 229) (by decide +kernel)) rfl
theorem q1_230 : ((Jvm.Cond.lays "java/lang/Throwable" "java/lang/Throwable" "detailMessage" "Ljava/lang/String;")) ∈ lw_all := lw_in1 (List.mem_of_getElem? (i := 230) (by decide +kernel)) rfl
theorem q1_231 : ((Jvm.Cond.lays "java/lang/IllegalStateException" "java/lang/Throwable" "backtrace" "Ljava/lang/Object;")) ∈ lw_all := lw_in1 (List.mem_of_getElem? (i := 231) (by decide +kernel)) rfl
theorem q1_232 : ((Jvm.Cond.lays "java/lang/Throwable" "java/lang/Throwable" "backtrace" "Ljava/lang/Object;")) ∈ lw_all := lw_in1 (List.mem_of_getElem? (i := 232) (by decide +kernel)) rfl
theorem q1_233 : (Cond.fieldLink "java/lang/Throwable" 198 "java/lang/Throwable" "backtrace" "Ljava/lang/Object;") ∈ lw_all := lw_in1 (List.mem_of_getElem? (i := 233) (by decide +kernel)) rfl
theorem q1_234 : ((Jvm.Cond.superclass "java/lang/Throwable" "java/lang/Object")) ∈ lw_all := lw_in1 (List.mem_of_getElem? (i := 234) (by decide +kernel)) rfl
theorem q1_235 : (Cond.instanceMethod ⟨"java/lang/Throwable", "<init>", "()V"⟩) ∈ lw_all := lw_in1 (List.mem_of_getElem? (i := 235) (by decide +kernel)) rfl
theorem q1_236 : ((Jvm.Cond.code ({ cls := "java/lang/Throwable", name := "<init>", desc := "()V" } : Jvm.MethodName) prog_17_method_1_code (1 : Nat) (Option.none : Option Jvm.ClassFile.FieldType))) ∈ lw_all := lw_in1 (List.mem_of_getElem? (i := 236) (by decide +kernel)) rfl
theorem q1_237 : (Cond.methodLink "java/lang/Throwable" 1 ⟨"java/lang/Object", "<init>", "()V"⟩) ∈ lw_all := lw_in1 (List.mem_of_getElem? (i := 237) (by decide +kernel)) rfl
theorem q1_238 : (Cond.fieldLink "java/lang/Throwable" 13 "java/lang/Throwable" "UNASSIGNED_STACK" "[Ljava/lang/StackTraceElement;") ∈ lw_all := lw_in1 (List.mem_of_getElem? (i := 238) (by decide +kernel)) rfl
theorem q2_0 : (Cond.fieldLink "java/lang/Throwable" 20 "java/lang/Throwable" "SUPPRESSED_SENTINEL" "Ljava/util/List;") ∈ lw_all := lw_in2 (List.mem_of_getElem? (i := 0) (by decide +kernel)) rfl
theorem q2_2 : (Cond.methodLink "java/lang/Throwable" 27 ⟨"java/lang/Throwable", "fillInStackTrace", "()Ljava/lang/Throwable;"⟩) ∈ lw_all := lw_in2 (List.mem_of_getElem? (i := 2) (by decide +kernel)) rfl
theorem q2_3 : (Cond.instanceMethod ⟨"java/lang/Throwable", "fillInStackTrace", "()Ljava/lang/Throwable;"⟩) ∈ lw_all := lw_in2 (List.mem_of_getElem? (i := 3) (by decide +kernel)) rfl
theorem q2_4 : ((Jvm.Cond.sameMethod "java/lang/Throwable" "java/lang/Throwable" "fillInStackTrace" "()Ljava/lang/Throwable;")) ∈ lw_all := lw_in2 (List.mem_of_getElem? (i := 4) (by decide +kernel)) rfl
theorem q2_5 : (Cond.selects "java/lang/IllegalArgumentException" ⟨"java/lang/Throwable", "fillInStackTrace", "()Ljava/lang/Throwable;"⟩ ⟨"java/lang/Throwable", "fillInStackTrace", "()Ljava/lang/Throwable;"⟩) ∈ lw_all := lw_in2 (List.mem_of_getElem? (i := 5) (by decide +kernel)) rfl
theorem q2_6 : (Cond.selects "java/lang/IndexOutOfBoundsException" ⟨"java/lang/Throwable", "fillInStackTrace", "()Ljava/lang/Throwable;"⟩ ⟨"java/lang/Throwable", "fillInStackTrace", "()Ljava/lang/Throwable;"⟩) ∈ lw_all := lw_in2 (List.mem_of_getElem? (i := 6) (by decide +kernel)) rfl
theorem q2_7 : ((Jvm.Cond.codeSync ({ cls := "java/lang/Throwable", name := "fillInStackTrace", desc := "()Ljava/lang/Throwable;" } : Jvm.MethodName) prog_17_method_18_code (1 : Nat) (Option.some (Jvm.ClassFile.FieldType.object "java/lang/Throwable")))) ∈ lw_all := lw_in2 (List.mem_of_getElem? (i := 7) (by decide +kernel)) rfl
theorem q2_8 : (Cond.methodLink "java/lang/Throwable" 202 ⟨"java/lang/Throwable", "fillInStackTrace", "(I)Ljava/lang/Throwable;"⟩) ∈ lw_all := lw_in2 (List.mem_of_getElem? (i := 8) (by decide +kernel)) rfl
theorem q2_10 : (Cond.instanceMethod ⟨"java/lang/Throwable", "fillInStackTrace", "(I)Ljava/lang/Throwable;"⟩) ∈ lw_all := lw_in2 (List.mem_of_getElem? (i := 10) (by decide +kernel)) rfl
theorem q2_11 : (Cond.instantiable "java/lang/Throwable" 6) ∈ lw_all := lw_in2 (List.mem_of_getElem? (i := 11) (by decide +kernel)) rfl
theorem q2_12 : (Cond.native ⟨"java/lang/Throwable", "fillInStackTrace", "(I)Ljava/lang/Throwable;"⟩) ∈ lw_all := lw_in2 (List.mem_of_getElem? (i := 12) (by decide +kernel)) rfl
theorem q2_14 : (Cond.methodLink RX5 80 ⟨"java/lang/IllegalStateException", "<init>", "(Ljava/lang/String;)V"⟩) ∈ lw_all := lw_in2 (List.mem_of_getElem? (i := 14) (by decide +kernel)) rfl
theorem q2_15 : (Cond.instanceMethod ⟨"java/lang/IllegalStateException", "<init>", "(Ljava/lang/String;)V"⟩) ∈ lw_all := lw_in2 (List.mem_of_getElem? (i := 15) (by decide +kernel)) rfl
theorem q2_16 : ((Jvm.Cond.code ({ cls := "java/lang/IllegalStateException", name := "<init>", desc := "(Ljava/lang/String;)V" } : Jvm.MethodName) prog_11_method_2_code (2 : Nat) (Option.none : Option Jvm.ClassFile.FieldType))) ∈ lw_all := lw_in2 (List.mem_of_getElem? (i := 16) (by decide +kernel)) rfl
theorem q2_17 : (Cond.methodLink "java/lang/IllegalStateException" 7 ⟨"java/lang/RuntimeException", "<init>", "(Ljava/lang/String;)V"⟩) ∈ lw_all := lw_in2 (List.mem_of_getElem? (i := 17) (by decide +kernel)) rfl
theorem q2_18 : (Cond.instanceMethod ⟨"java/lang/RuntimeException", "<init>", "(Ljava/lang/String;)V"⟩) ∈ lw_all := lw_in2 (List.mem_of_getElem? (i := 18) (by decide +kernel)) rfl
theorem q2_19 : ((Jvm.Cond.code ({ cls := "java/lang/RuntimeException", name := "<init>", desc := "(Ljava/lang/String;)V" } : Jvm.MethodName) prog_15_method_2_code (2 : Nat) (Option.none : Option Jvm.ClassFile.FieldType))) ∈ lw_all := lw_in2 (List.mem_of_getElem? (i := 19) (by decide +kernel)) rfl
theorem q2_20 : (Cond.methodLink "java/lang/RuntimeException" 7 ⟨"java/lang/Exception", "<init>", "(Ljava/lang/String;)V"⟩) ∈ lw_all := lw_in2 (List.mem_of_getElem? (i := 20) (by decide +kernel)) rfl
theorem q2_21 : (Cond.instanceMethod ⟨"java/lang/Exception", "<init>", "(Ljava/lang/String;)V"⟩) ∈ lw_all := lw_in2 (List.mem_of_getElem? (i := 21) (by decide +kernel)) rfl
theorem q2_22 : ((Jvm.Cond.code ({ cls := "java/lang/Exception", name := "<init>", desc := "(Ljava/lang/String;)V" } : Jvm.MethodName) prog_9_method_2_code (2 : Nat) (Option.none : Option Jvm.ClassFile.FieldType))) ∈ lw_all := lw_in2 (List.mem_of_getElem? (i := 22) (by decide +kernel)) rfl
theorem q2_23 : (Cond.methodLink "java/lang/Exception" 7 ⟨"java/lang/Throwable", "<init>", "(Ljava/lang/String;)V"⟩) ∈ lw_all := lw_in2 (List.mem_of_getElem? (i := 23) (by decide +kernel)) rfl
theorem q2_24 : (Cond.instanceMethod ⟨"java/lang/Throwable", "<init>", "(Ljava/lang/String;)V"⟩) ∈ lw_all := lw_in2 (List.mem_of_getElem? (i := 24) (by decide +kernel)) rfl
theorem q2_25 : ((Jvm.Cond.code ({ cls := "java/lang/Throwable", name := "<init>", desc := "(Ljava/lang/String;)V" } : Jvm.MethodName) prog_17_method_2_code (2 : Nat) (Option.none : Option Jvm.ClassFile.FieldType))) ∈ lw_all := lw_in2 (List.mem_of_getElem? (i := 25) (by decide +kernel)) rfl
theorem q2_26 : (Cond.fieldLink "java/lang/Throwable" 198 "java/lang/Throwable" "backtrace" "Ljava/lang/Object;") ∈ lw_all := lw_in2 (List.mem_of_getElem? (i := 26) (by decide +kernel)) rfl
theorem q2_27 : (Cond.fieldLink "java/lang/Throwable" 31 "java/lang/Throwable" "detailMessage" "Ljava/lang/String;") ∈ lw_all := lw_in2 (List.mem_of_getElem? (i := 27) (by decide +kernel)) rfl
theorem q2_28 : (Cond.fieldLink "java/lang/Throwable" 7 "java/lang/Throwable" "cause" "Ljava/lang/Throwable;") ∈ lw_all := lw_in2 (List.mem_of_getElem? (i := 28) (by decide +kernel)) rfl
theorem q2_29 : (Cond.fieldLink "java/lang/Throwable" 17 "java/lang/Throwable" "stackTrace" "[Ljava/lang/StackTraceElement;") ∈ lw_all := lw_in2 (List.mem_of_getElem? (i := 29) (by decide +kernel)) rfl
theorem q2_30 : (Cond.fieldLink "java/lang/Throwable" 24 "java/lang/Throwable" "suppressedExceptions" "Ljava/util/List;") ∈ lw_all := lw_in2 (List.mem_of_getElem? (i := 30) (by decide +kernel)) rfl
theorem q2_31 : ((Jvm.Cond.soleField "java/lang/Throwable" "backtrace")) ∈ lw_all := lw_in2 (List.mem_of_getElem? (i := 31) (by decide +kernel)) rfl
theorem q2_32 : ((Jvm.Cond.soleField "java/lang/Throwable" "detailMessage")) ∈ lw_all := lw_in2 (List.mem_of_getElem? (i := 32) (by decide +kernel)) rfl
theorem q2_33 : ((Jvm.Cond.soleField "java/lang/Throwable" "cause")) ∈ lw_all := lw_in2 (List.mem_of_getElem? (i := 33) (by decide +kernel)) rfl
theorem q2_34 : ((Jvm.Cond.soleField "java/lang/Throwable" "stackTrace")) ∈ lw_all := lw_in2 (List.mem_of_getElem? (i := 34) (by decide +kernel)) rfl
theorem q2_35 : ((Jvm.Cond.lays "java/lang/IllegalStateException" "java/lang/Throwable" "depth" "I")) ∈ lw_all := lw_in2 (List.mem_of_getElem? (i := 35) (by decide +kernel)) rfl
theorem q2_36 : ((Jvm.Cond.soleField "java/lang/Throwable" "depth")) ∈ lw_all := lw_in2 (List.mem_of_getElem? (i := 36) (by decide +kernel)) rfl
theorem q2_37 : ((Jvm.Cond.soleField "java/lang/Throwable" "suppressedExceptions")) ∈ lw_all := lw_in2 (List.mem_of_getElem? (i := 37) (by decide +kernel)) rfl
theorem q2_38 : ((Jvm.Cond.superclass "java/lang/IllegalStateException" "java/lang/RuntimeException")) ∈ lw_all := lw_in2 (List.mem_of_getElem? (i := 38) (by decide +kernel)) rfl
theorem q2_39 : ((Jvm.Cond.arrayClass Jvm.ClassFile.FieldType.byte)) ∈ lw_all := lw_in2 (List.mem_of_getElem? (i := 39) (by decide +kernel)) rfl
theorem q2_40 : (Cond.methodLink RX5 167 yX3_copyFrom) ∈ lw_all := lw_in2 (List.mem_of_getElem? (i := 40) (by decide +kernel)) rfl
theorem q2_41 : (Cond.instanceMethod yX3_copyFrom) ∈ lw_all := lw_in2 (List.mem_of_getElem? (i := 41) (by decide +kernel)) rfl
theorem q2_42 : (Cond.selects RX3 yX3_copyFrom yX3_copyFrom) ∈ lw_all := lw_in2 (List.mem_of_getElem? (i := 42) (by decide +kernel)) rfl
theorem q2_43 : (Cond.code yX3_copyFrom cX3_copyFrom 3 none) ∈ lw_all := lw_in2 (List.mem_of_getElem? (i := 43) (by decide +kernel)) rfl
theorem q2_44 : (Cond.methodLink RX3 49 yX0_copyFrom) ∈ lw_all := lw_in2 (List.mem_of_getElem? (i := 44) (by decide +kernel)) rfl
theorem q2_45 : (Cond.instanceMethod yX0_copyFrom) ∈ lw_all := lw_in2 (List.mem_of_getElem? (i := 45) (by decide +kernel)) rfl
theorem q2_46 : (Cond.selects RX0 yX0_copyFrom yX0_copyFrom) ∈ lw_all := lw_in2 (List.mem_of_getElem? (i := 46) (by decide +kernel)) rfl
theorem q2_47 : (Cond.code yX0_copyFrom cX0_copyFrom 3 none) ∈ lw_all := lw_in2 (List.mem_of_getElem? (i := 47) (by decide +kernel)) rfl
theorem q2_48 : (Cond.methodLink RX3 53 yX1_copyFrom) ∈ lw_all := lw_in2 (List.mem_of_getElem? (i := 48) (by decide +kernel)) rfl
theorem q2_49 : (Cond.instanceMethod yX1_copyFrom) ∈ lw_all := lw_in2 (List.mem_of_getElem? (i := 49) (by decide +kernel)) rfl
theorem q2_50 : (Cond.selects RX1 yX1_copyFrom yX1_copyFrom) ∈ lw_all := lw_in2 (List.mem_of_getElem? (i := 50) (by decide +kernel)) rfl
theorem q2_51 : (Cond.code yX1_copyFrom cX1_copyFrom 3 none) ∈ lw_all := lw_in2 (List.mem_of_getElem? (i := 51) (by decide +kernel)) rfl
theorem q2_52 : (Cond.methodLink RL 138 yL_goBack) ∈ lw_all := lw_in2 (List.mem_of_getElem? (i := 52) (by decide +kernel)) rfl
theorem q2_53 : (Cond.static yL_goBack) ∈ lw_all := lw_in2 (List.mem_of_getElem? (i := 53) (by decide +kernel)) rfl
theorem q2_54 : ((Jvm.Cond.codeWith ({ cls := "PairedTumblersLaw", name := "goBack", desc := "(LPairedTumblers;)I" } : Jvm.MethodName) method_9_code (3 : Nat) (Option.some Jvm.ClassFile.FieldType.int) [((0 : Nat), (5 : Nat), (8 : Nat), (17 : Nat))])) ∈ lw_all := lw_in2 (List.mem_of_getElem? (i := 54) (by decide +kernel)) rfl
theorem q2_55 : (Cond.methodLink RL 35 yX5_goBack) ∈ lw_all := lw_in2 (List.mem_of_getElem? (i := 55) (by decide +kernel)) rfl
theorem q2_56 : (Cond.instanceMethod yX5_goBack) ∈ lw_all := lw_in2 (List.mem_of_getElem? (i := 56) (by decide +kernel)) rfl
theorem q2_57 : (Cond.selects RX5 yX5_goBack yX5_goBack) ∈ lw_all := lw_in2 (List.mem_of_getElem? (i := 57) (by decide +kernel)) rfl
theorem q2_58 : (Cond.code yX5_goBack cX5_goBack 1 (some .int)) ∈ lw_all := lw_in2 (List.mem_of_getElem? (i := 58) (by decide +kernel)) rfl
theorem q2_60 : (Cond.methodLink RX5 81 yX5_save) ∈ lw_all := lw_in2 (List.mem_of_getElem? (i := 60) (by decide +kernel)) rfl
theorem q2_62 : (Cond.instanceMethod yX5_save) ∈ lw_all := lw_in2 (List.mem_of_getElem? (i := 62) (by decide +kernel)) rfl
theorem q2_63 : (Cond.code yX5_save cX5_save 1 none) ∈ lw_all := lw_in2 (List.mem_of_getElem? (i := 63) (by decide +kernel)) rfl
theorem q2_64 : (Cond.methodLink RX5 311 yX5_dropOldest) ∈ lw_all := lw_in2 (List.mem_of_getElem? (i := 64) (by decide +kernel)) rfl
theorem q2_66 : (Cond.instanceMethod yX5_dropOldest) ∈ lw_all := lw_in2 (List.mem_of_getElem? (i := 66) (by decide +kernel)) rfl
theorem q2_67 : (Cond.code yX5_dropOldest cX5_dropOldest 3 none) ∈ lw_all := lw_in2 (List.mem_of_getElem? (i := 67) (by decide +kernel)) rfl
theorem q2_68 : (Cond.methodLink RX5 314 yX5_writeSaved) ∈ lw_all := lw_in2 (List.mem_of_getElem? (i := 68) (by decide +kernel)) rfl
theorem q2_70 : (Cond.instanceMethod yX5_writeSaved) ∈ lw_all := lw_in2 (List.mem_of_getElem? (i := 70) (by decide +kernel)) rfl
theorem q2_71 : (Cond.code yX5_writeSaved cX5_writeSaved 2 none) ∈ lw_all := lw_in2 (List.mem_of_getElem? (i := 71) (by decide +kernel)) rfl
theorem q2_72 : (Cond.methodLink RL 148 yL_at) ∈ lw_all := lw_in2 (List.mem_of_getElem? (i := 72) (by decide +kernel)) rfl
theorem q2_73 : (Cond.static yL_at) ∈ lw_all := lw_in2 (List.mem_of_getElem? (i := 73) (by decide +kernel)) rfl
theorem q2_74 : ((Jvm.Cond.codeWith ({ cls := "PairedTumblersLaw", name := "at", desc := "(LPairedTumblers;II)I" } : Jvm.MethodName) method_10_code (5 : Nat) (Option.some Jvm.ClassFile.FieldType.int) [((0 : Nat), (7 : Nat), (10 : Nat), (15 : Nat)), ((0 : Nat), (7 : Nat), (15 : Nat), (26 : Nat))])) ∈ lw_all := lw_in2 (List.mem_of_getElem? (i := 74) (by decide +kernel)) rfl
theorem q2_75 : (Cond.classLink RL 15 "java/lang/IndexOutOfBoundsException") ∈ lw_all := lw_in2 (List.mem_of_getElem? (i := 75) (by decide +kernel)) rfl
theorem q2_76 : (Cond.classLink RL 26 "java/lang/IllegalArgumentException") ∈ lw_all := lw_in2 (List.mem_of_getElem? (i := 76) (by decide +kernel)) rfl
theorem q2_77 : (Cond.methodLink RL 38 yX5_at) ∈ lw_all := lw_in2 (List.mem_of_getElem? (i := 77) (by decide +kernel)) rfl
theorem q2_78 : (Cond.instanceMethod yX5_at) ∈ lw_all := lw_in2 (List.mem_of_getElem? (i := 78) (by decide +kernel)) rfl
theorem q2_79 : (Cond.selects RX5 yX5_at yX5_at) ∈ lw_all := lw_in2 (List.mem_of_getElem? (i := 79) (by decide +kernel)) rfl
theorem q2_80 : (Cond.code yX5_at cX5_at 3 (some .int)) ∈ lw_all := lw_in2 (List.mem_of_getElem? (i := 80) (by decide +kernel)) rfl
theorem q2_81 : (Cond.methodLink RX5 137 yX5_requirePosition) ∈ lw_all := lw_in2 (List.mem_of_getElem? (i := 81) (by decide +kernel)) rfl
theorem q2_82 : (Cond.static yX5_requirePosition) ∈ lw_all := lw_in2 (List.mem_of_getElem? (i := 82) (by decide +kernel)) rfl
theorem q2_83 : (Cond.code yX5_requirePosition cX5_requirePosition 1 none) ∈ lw_all := lw_in2 (List.mem_of_getElem? (i := 83) (by decide +kernel)) rfl
theorem q2_84 : (Cond.classLink RX5 302 "java/lang/IndexOutOfBoundsException") ∈ lw_all := lw_in2 (List.mem_of_getElem? (i := 84) (by decide +kernel)) rfl
theorem q2_85 : (Cond.instantiable "java/lang/IndexOutOfBoundsException" 6) ∈ lw_all := lw_in2 (List.mem_of_getElem? (i := 85) (by decide +kernel)) rfl
theorem qn2_86 : ((Jvm.Cond.castable "java/lang/IndexOutOfBoundsException" "java/lang/IndexOutOfBoundsException")) ∈ lw_nw := lw_nin2 (List.mem_of_getElem? (i := 86) (by decide +kernel)) rfl
theorem q2_87 : (Cond.selects "java/lang/IndexOutOfBoundsException" ⟨"java/lang/Throwable", "fillInStackTrace", "(I)Ljava/lang/Throwable;"⟩ ⟨"java/lang/Throwable", "fillInStackTrace", "(I)Ljava/lang/Throwable;"⟩) ∈ lw_all := lw_in2 (List.mem_of_getElem? (i := 87) (by decide +kernel)) rfl
theorem q2_88 : ((Jvm.Cond.lays "java/lang/IndexOutOfBoundsException" "java/lang/Throwable" "cause" "Ljava/lang/Throwable;")) ∈ lw_all := lw_in2 (List.mem_of_getElem? (i := 88) (by decide +kernel)) rfl
theorem q2_89 : ((Jvm.Cond.lays "java/lang/IndexOutOfBoundsException" "java/lang/Throwable" "stackTrace" "[Ljava/lang/StackTraceElement;")) ∈ lw_all := lw_in2 (List.mem_of_getElem? (i := 89) (by decide +kernel)) rfl
theorem q2_90 : ((Jvm.Cond.lays "java/lang/IndexOutOfBoundsException" "java/lang/Throwable" "suppressedExceptions" "Ljava/util/List;")) ∈ lw_all := lw_in2 (List.mem_of_getElem? (i := 90) (by decide +kernel)) rfl
theorem q2_91 : ((Jvm.Cond.lays "java/lang/IndexOutOfBoundsException" "java/lang/Throwable" "detailMessage" "Ljava/lang/String;")) ∈ lw_all := lw_in2 (List.mem_of_getElem? (i := 91) (by decide +kernel)) rfl
theorem q2_92 : ((Jvm.Cond.lays "java/lang/IndexOutOfBoundsException" "java/lang/Throwable" "backtrace" "Ljava/lang/Object;")) ∈ lw_all := lw_in2 (List.mem_of_getElem? (i := 92) (by decide +kernel)) rfl
theorem q2_94 : (Cond.methodLink RX5 306 ⟨"java/lang/IndexOutOfBoundsException", "<init>", "(Ljava/lang/String;)V"⟩) ∈ lw_all := lw_in2 (List.mem_of_getElem? (i := 94) (by decide +kernel)) rfl
theorem q2_95 : (Cond.instanceMethod ⟨"java/lang/IndexOutOfBoundsException", "<init>", "(Ljava/lang/String;)V"⟩) ∈ lw_all := lw_in2 (List.mem_of_getElem? (i := 95) (by decide +kernel)) rfl
theorem q2_96 : ((Jvm.Cond.code ({ cls := "java/lang/IndexOutOfBoundsException", name := "<init>", desc := "(Ljava/lang/String;)V" } : Jvm.MethodName) prog_12_method_2_code (2 : Nat) (Option.none : Option Jvm.ClassFile.FieldType))) ∈ lw_all := lw_in2 (List.mem_of_getElem? (i := 96) (by decide +kernel)) rfl
theorem q2_97 : (Cond.methodLink "java/lang/IndexOutOfBoundsException" 7 ⟨"java/lang/RuntimeException", "<init>", "(Ljava/lang/String;)V"⟩) ∈ lw_all := lw_in2 (List.mem_of_getElem? (i := 97) (by decide +kernel)) rfl
theorem q2_98 : ((Jvm.Cond.lays "java/lang/IndexOutOfBoundsException" "java/lang/Throwable" "depth" "I")) ∈ lw_all := lw_in2 (List.mem_of_getElem? (i := 98) (by decide +kernel)) rfl
theorem q2_99 : ((Jvm.Cond.superclass "java/lang/IndexOutOfBoundsException" "java/lang/RuntimeException")) ∈ lw_all := lw_in2 (List.mem_of_getElem? (i := 99) (by decide +kernel)) rfl
theorem q2_100 : (Cond.methodLink RX5 177 yX0_discAt) ∈ lw_all := lw_in2 (List.mem_of_getElem? (i := 100) (by decide +kernel)) rfl
theorem q2_101 : (Cond.instanceMethod yX0_discAt) ∈ lw_all := lw_in2 (List.mem_of_getElem? (i := 101) (by decide +kernel)) rfl
theorem q2_102 : (Cond.selects RX0 yX0_discAt yX0_discAt) ∈ lw_all := lw_in2 (List.mem_of_getElem? (i := 102) (by decide +kernel)) rfl
theorem q2_103 : (Cond.code yX0_discAt cX0_discAt 2 (some .int)) ∈ lw_all := lw_in2 (List.mem_of_getElem? (i := 103) (by decide +kernel)) rfl
theorem q2_104 : (Cond.methodLink RX5 180 yX0_notchAt) ∈ lw_all := lw_in2 (List.mem_of_getElem? (i := 104) (by decide +kernel)) rfl
theorem q2_105 : (Cond.instanceMethod yX0_notchAt) ∈ lw_all := lw_in2 (List.mem_of_getElem? (i := 105) (by decide +kernel)) rfl
theorem q2_106 : (Cond.selects RX0 yX0_notchAt yX0_notchAt) ∈ lw_all := lw_in2 (List.mem_of_getElem? (i := 106) (by decide +kernel)) rfl
theorem q2_107 : (Cond.code yX0_notchAt cX0_notchAt 2 (some .int)) ∈ lw_all := lw_in2 (List.mem_of_getElem? (i := 107) (by decide +kernel)) rfl
theorem q2_108 : (Cond.methodLink RX5 183 yX0_agreesAt) ∈ lw_all := lw_in2 (List.mem_of_getElem? (i := 108) (by decide +kernel)) rfl
theorem q2_109 : (Cond.instanceMethod yX0_agreesAt) ∈ lw_all := lw_in2 (List.mem_of_getElem? (i := 109) (by decide +kernel)) rfl
theorem q2_110 : (Cond.selects RX0 yX0_agreesAt yX0_agreesAt) ∈ lw_all := lw_in2 (List.mem_of_getElem? (i := 110) (by decide +kernel)) rfl
theorem q2_111 : (Cond.code yX0_agreesAt cX0_agreesAt 3 (some .boolean)) ∈ lw_all := lw_in2 (List.mem_of_getElem? (i := 111) (by decide +kernel)) rfl
theorem q2_112 : (Cond.methodLink RX0 18 yX0_discAt) ∈ lw_all := lw_in2 (List.mem_of_getElem? (i := 112) (by decide +kernel)) rfl
theorem q2_113 : (Cond.methodLink RX0 22 yX0_notchAt) ∈ lw_all := lw_in2 (List.mem_of_getElem? (i := 113) (by decide +kernel)) rfl
theorem q2_114 : (Cond.methodLink RX5 187 yX1_keysAt) ∈ lw_all := lw_in2 (List.mem_of_getElem? (i := 114) (by decide +kernel)) rfl
theorem q2_115 : (Cond.instanceMethod yX1_keysAt) ∈ lw_all := lw_in2 (List.mem_of_getElem? (i := 115) (by decide +kernel)) rfl
theorem q2_116 : (Cond.selects RX1 yX1_keysAt yX1_keysAt) ∈ lw_all := lw_in2 (List.mem_of_getElem? (i := 116) (by decide +kernel)) rfl
theorem q2_117 : (Cond.code yX1_keysAt cX1_keysAt 4 (some .int)) ∈ lw_all := lw_in2 (List.mem_of_getElem? (i := 117) (by decide +kernel)) rfl
theorem q2_118 : (Cond.classLink RX5 66 "java/lang/IllegalArgumentException") ∈ lw_all := lw_in2 (List.mem_of_getElem? (i := 118) (by decide +kernel)) rfl
theorem q2_119 : (Cond.instantiable "java/lang/IllegalArgumentException" 6) ∈ lw_all := lw_in2 (List.mem_of_getElem? (i := 119) (by decide +kernel)) rfl
theorem qn2_120 : ((Jvm.Cond.castable "java/lang/IllegalArgumentException" "java/lang/IllegalArgumentException")) ∈ lw_nw := lw_nin2 (List.mem_of_getElem? (i := 120) (by decide +kernel)) rfl
theorem q2_121 : (Cond.selects "java/lang/IllegalArgumentException" ⟨"java/lang/Throwable", "fillInStackTrace", "(I)Ljava/lang/Throwable;"⟩ ⟨"java/lang/Throwable", "fillInStackTrace", "(I)Ljava/lang/Throwable;"⟩) ∈ lw_all := lw_in2 (List.mem_of_getElem? (i := 121) (by decide +kernel)) rfl
theorem q2_122 : ((Jvm.Cond.lays "java/lang/IllegalArgumentException" "java/lang/Throwable" "cause" "Ljava/lang/Throwable;")) ∈ lw_all := lw_in2 (List.mem_of_getElem? (i := 122) (by decide +kernel)) rfl
theorem q2_123 : ((Jvm.Cond.lays "java/lang/IllegalArgumentException" "java/lang/Throwable" "stackTrace" "[Ljava/lang/StackTraceElement;")) ∈ lw_all := lw_in2 (List.mem_of_getElem? (i := 123) (by decide +kernel)) rfl
theorem q2_124 : ((Jvm.Cond.lays "java/lang/IllegalArgumentException" "java/lang/Throwable" "suppressedExceptions" "Ljava/util/List;")) ∈ lw_all := lw_in2 (List.mem_of_getElem? (i := 124) (by decide +kernel)) rfl
theorem q2_125 : ((Jvm.Cond.lays "java/lang/IllegalArgumentException" "java/lang/Throwable" "detailMessage" "Ljava/lang/String;")) ∈ lw_all := lw_in2 (List.mem_of_getElem? (i := 125) (by decide +kernel)) rfl
theorem q2_126 : ((Jvm.Cond.lays "java/lang/IllegalArgumentException" "java/lang/Throwable" "backtrace" "Ljava/lang/Object;")) ∈ lw_all := lw_in2 (List.mem_of_getElem? (i := 126) (by decide +kernel)) rfl
theorem q2_128 : (Cond.methodLink RX5 70 ⟨"java/lang/IllegalArgumentException", "<init>", "(Ljava/lang/String;)V"⟩) ∈ lw_all := lw_in2 (List.mem_of_getElem? (i := 128) (by decide +kernel)) rfl
theorem q2_129 : (Cond.instanceMethod ⟨"java/lang/IllegalArgumentException", "<init>", "(Ljava/lang/String;)V"⟩) ∈ lw_all := lw_in2 (List.mem_of_getElem? (i := 129) (by decide +kernel)) rfl
theorem q2_130 : ((Jvm.Cond.code ({ cls := "java/lang/IllegalArgumentException", name := "<init>", desc := "(Ljava/lang/String;)V" } : Jvm.MethodName) prog_10_method_2_code (2 : Nat) (Option.none : Option Jvm.ClassFile.FieldType))) ∈ lw_all := lw_in2 (List.mem_of_getElem? (i := 130) (by decide +kernel)) rfl
theorem q2_131 : (Cond.methodLink "java/lang/IllegalArgumentException" 7 ⟨"java/lang/RuntimeException", "<init>", "(Ljava/lang/String;)V"⟩) ∈ lw_all := lw_in2 (List.mem_of_getElem? (i := 131) (by decide +kernel)) rfl
theorem q2_132 : ((Jvm.Cond.lays "java/lang/IllegalArgumentException" "java/lang/Throwable" "depth" "I")) ∈ lw_all := lw_in2 (List.mem_of_getElem? (i := 132) (by decide +kernel)) rfl
theorem q2_133 : ((Jvm.Cond.superclass "java/lang/IllegalArgumentException" "java/lang/RuntimeException")) ∈ lw_all := lw_in2 (List.mem_of_getElem? (i := 133) (by decide +kernel)) rfl
theorem q2_134 : (Cond.methodLink RL 151 yL_key) ∈ lw_all := lw_in2 (List.mem_of_getElem? (i := 134) (by decide +kernel)) rfl
theorem q2_135 : (Cond.static yL_key) ∈ lw_all := lw_in2 (List.mem_of_getElem? (i := 135) (by decide +kernel)) rfl
theorem q2_136 : ((Jvm.Cond.codeWith ({ cls := "PairedTumblersLaw", name := "key", desc := "(LPairedTumblers;II)I" } : Jvm.MethodName) method_11_code (5 : Nat) (Option.some Jvm.ClassFile.FieldType.int) [((0 : Nat), (7 : Nat), (10 : Nat), (15 : Nat)), ((0 : Nat), (7 : Nat), (15 : Nat), (26 : Nat))])) ∈ lw_all := lw_in2 (List.mem_of_getElem? (i := 136) (by decide +kernel)) rfl
theorem q2_137 : (Cond.methodLink RL 42 yX5_key) ∈ lw_all := lw_in2 (List.mem_of_getElem? (i := 137) (by decide +kernel)) rfl
theorem q2_138 : (Cond.instanceMethod yX5_key) ∈ lw_all := lw_in2 (List.mem_of_getElem? (i := 138) (by decide +kernel)) rfl
theorem q2_139 : (Cond.selects RX5 yX5_key yX5_key) ∈ lw_all := lw_in2 (List.mem_of_getElem? (i := 139) (by decide +kernel)) rfl
theorem q2_140 : (Cond.code yX5_key cX5_key 3 (some .int)) ∈ lw_all := lw_in2 (List.mem_of_getElem? (i := 140) (by decide +kernel)) rfl
theorem q2_141 : (Cond.methodLink RX5 116 yX5_requireKey) ∈ lw_all := lw_in2 (List.mem_of_getElem? (i := 141) (by decide +kernel)) rfl
theorem q2_142 : (Cond.static yX5_requireKey) ∈ lw_all := lw_in2 (List.mem_of_getElem? (i := 142) (by decide +kernel)) rfl
theorem q2_143 : (Cond.code yX5_requireKey cX5_requireKey 1 none) ∈ lw_all := lw_in2 (List.mem_of_getElem? (i := 143) (by decide +kernel)) rfl
theorem q2_145 : (Cond.methodLink RX5 128 yX1_maskOf) ∈ lw_all := lw_in2 (List.mem_of_getElem? (i := 145) (by decide +kernel)) rfl
theorem q2_146 : (Cond.instanceMethod yX1_maskOf) ∈ lw_all := lw_in2 (List.mem_of_getElem? (i := 146) (by decide +kernel)) rfl
theorem q2_147 : (Cond.selects RX1 yX1_maskOf yX1_maskOf) ∈ lw_all := lw_in2 (List.mem_of_getElem? (i := 147) (by decide +kernel)) rfl
theorem q2_148 : (Cond.code yX1_maskOf cX1_maskOf 2 (some .int)) ∈ lw_all := lw_in2 (List.mem_of_getElem? (i := 148) (by decide +kernel)) rfl
theorem q2_149 : (Cond.methodLink RX5 192 yX1_strengthOf) ∈ lw_all := lw_in2 (List.mem_of_getElem? (i := 149) (by decide +kernel)) rfl
theorem q2_150 : (Cond.instanceMethod yX1_strengthOf) ∈ lw_all := lw_in2 (List.mem_of_getElem? (i := 150) (by decide +kernel)) rfl
theorem q2_151 : (Cond.selects RX1 yX1_strengthOf yX1_strengthOf) ∈ lw_all := lw_in2 (List.mem_of_getElem? (i := 151) (by decide +kernel)) rfl
theorem q2_152 : (Cond.code yX1_strengthOf cX1_strengthOf 2 (some .int)) ∈ lw_all := lw_in2 (List.mem_of_getElem? (i := 152) (by decide +kernel)) rfl
theorem q2_153 : (Cond.methodLink RX5 195 yX5_showKey) ∈ lw_all := lw_in2 (List.mem_of_getElem? (i := 153) (by decide +kernel)) rfl
theorem q2_155 : (Cond.instanceMethod yX5_showKey) ∈ lw_all := lw_in2 (List.mem_of_getElem? (i := 155) (by decide +kernel)) rfl
theorem q2_156 : (Cond.code yX5_showKey cX5_showKey 2 none) ∈ lw_all := lw_in2 (List.mem_of_getElem? (i := 156) (by decide +kernel)) rfl
theorem q2_157 : (Cond.methodLink RX5 110 yX0_bringHome) ∈ lw_all := lw_in2 (List.mem_of_getElem? (i := 157) (by decide +kernel)) rfl
theorem q2_158 : (Cond.instanceMethod yX0_bringHome) ∈ lw_all := lw_in2 (List.mem_of_getElem? (i := 158) (by decide +kernel)) rfl
theorem q2_159 : (Cond.selects RX0 yX0_bringHome yX0_bringHome) ∈ lw_all := lw_in2 (List.mem_of_getElem? (i := 159) (by decide +kernel)) rfl
theorem q2_160 : (Cond.code yX0_bringHome cX0_bringHome 2 none) ∈ lw_all := lw_in2 (List.mem_of_getElem? (i := 160) (by decide +kernel)) rfl
theorem q2_161 : (Cond.methodLink RX5 248 yX5_moveOf) ∈ lw_all := lw_in2 (List.mem_of_getElem? (i := 161) (by decide +kernel)) rfl
theorem q2_162 : (Cond.static yX5_moveOf) ∈ lw_all := lw_in2 (List.mem_of_getElem? (i := 162) (by decide +kernel)) rfl
theorem q2_163 : (Cond.code yX5_moveOf cX5_moveOf 2 (some .int)) ∈ lw_all := lw_in2 (List.mem_of_getElem? (i := 163) (by decide +kernel)) rfl
theorem q2_164 : (Cond.methodLink RX5 251 yX1_move) ∈ lw_all := lw_in2 (List.mem_of_getElem? (i := 164) (by decide +kernel)) rfl
theorem q2_165 : (Cond.instanceMethod yX1_move) ∈ lw_all := lw_in2 (List.mem_of_getElem? (i := 165) (by decide +kernel)) rfl
theorem q2_166 : (Cond.selects RX1 yX1_move yX1_move) ∈ lw_all := lw_in2 (List.mem_of_getElem? (i := 166) (by decide +kernel)) rfl
theorem q2_167 : (Cond.code yX1_move cX1_move 4 none) ∈ lw_all := lw_in2 (List.mem_of_getElem? (i := 167) (by decide +kernel)) rfl
theorem qn2_168 : (Cond.methodLinkNest RX1 18 yX5_keyOf RX5) ∈ lw_nw := lw_nin2 (List.mem_of_getElem? (i := 168) (by decide +kernel)) rfl
theorem q2_169 : (Cond.static yX5_keyOf) ∈ lw_all := lw_in2 (List.mem_of_getElem? (i := 169) (by decide +kernel)) rfl
theorem q2_170 : (Cond.code yX5_keyOf cX5_keyOf 1 (some .int)) ∈ lw_all := lw_in2 (List.mem_of_getElem? (i := 170) (by decide +kernel)) rfl
theorem q2_171 : (Cond.methodLink RX1 22 yX1_maskOf) ∈ lw_all := lw_in2 (List.mem_of_getElem? (i := 171) (by decide +kernel)) rfl
theorem q2_172 : (Cond.methodLink RX1 25 yX1_strengthOf) ∈ lw_all := lw_in2 (List.mem_of_getElem? (i := 172) (by decide +kernel)) rfl
theorem qn2_173 : (Cond.methodLinkNest RX1 28 yX5_isBack RX5) ∈ lw_nw := lw_nin2 (List.mem_of_getElem? (i := 173) (by decide +kernel)) rfl
theorem q2_174 : (Cond.static yX5_isBack) ∈ lw_all := lw_in2 (List.mem_of_getElem? (i := 174) (by decide +kernel)) rfl
theorem q2_175 : (Cond.code yX5_isBack cX5_isBack 1 (some .boolean)) ∈ lw_all := lw_in2 (List.mem_of_getElem? (i := 175) (by decide +kernel)) rfl
theorem q2_176 : (Cond.methodLink RX1 32 yX0_rotate) ∈ lw_all := lw_in2 (List.mem_of_getElem? (i := 176) (by decide +kernel)) rfl
theorem q2_177 : (Cond.instanceMethod yX0_rotate) ∈ lw_all := lw_in2 (List.mem_of_getElem? (i := 177) (by decide +kernel)) rfl
theorem q2_178 : (Cond.selects RX0 yX0_rotate yX0_rotate) ∈ lw_all := lw_in2 (List.mem_of_getElem? (i := 178) (by decide +kernel)) rfl
theorem q2_179 : (Cond.code yX0_rotate cX0_rotate 12 none) ∈ lw_all := lw_in2 (List.mem_of_getElem? (i := 179) (by decide +kernel)) rfl
theorem q2_180 : (Cond.methodLink RX5 198 yX5_periodByDoing) ∈ lw_all := lw_in2 (List.mem_of_getElem? (i := 180) (by decide +kernel)) rfl
theorem q2_182 : (Cond.instanceMethod yX5_periodByDoing) ∈ lw_all := lw_in2 (List.mem_of_getElem? (i := 182) (by decide +kernel)) rfl
theorem q2_183 : (Cond.code yX5_periodByDoing cX5_periodByDoing 2 (some .int)) ∈ lw_all := lw_in2 (List.mem_of_getElem? (i := 183) (by decide +kernel)) rfl
theorem q2_184 : (Cond.methodLink RX5 149 yX0_copyFrom) ∈ lw_all := lw_in2 (List.mem_of_getElem? (i := 184) (by decide +kernel)) rfl
theorem q2_185 : ((Jvm.Cond.constant "PairedTumblers" (323 : Nat) (1000000 : Int32))) ∈ lw_all := lw_in2 (List.mem_of_getElem? (i := 185) (by decide +kernel)) rfl
theorem q2_186 : (Cond.methodLink RX5 102 yX0_reach) ∈ lw_all := lw_in2 (List.mem_of_getElem? (i := 186) (by decide +kernel)) rfl
theorem q2_187 : (Cond.instanceMethod yX0_reach) ∈ lw_all := lw_in2 (List.mem_of_getElem? (i := 187) (by decide +kernel)) rfl
theorem q2_188 : (Cond.selects RX0 yX0_reach yX0_reach) ∈ lw_all := lw_in2 (List.mem_of_getElem? (i := 188) (by decide +kernel)) rfl
theorem q2_189 : (Cond.code yX0_reach cX0_reach 3 (some .int)) ∈ lw_all := lw_in2 (List.mem_of_getElem? (i := 189) (by decide +kernel)) rfl
theorem q2_190 : (Cond.methodLink RX5 324 yX0_putAhead) ∈ lw_all := lw_in2 (List.mem_of_getElem? (i := 190) (by decide +kernel)) rfl
theorem q2_191 : (Cond.instanceMethod yX0_putAhead) ∈ lw_all := lw_in2 (List.mem_of_getElem? (i := 191) (by decide +kernel)) rfl
theorem q2_192 : (Cond.selects RX0 yX0_putAhead yX0_putAhead) ∈ lw_all := lw_in2 (List.mem_of_getElem? (i := 192) (by decide +kernel)) rfl
theorem q2_193 : (Cond.code yX0_putAhead cX0_putAhead 4 none) ∈ lw_all := lw_in2 (List.mem_of_getElem? (i := 193) (by decide +kernel)) rfl
theorem q2_194 : (Cond.methodLink RX5 201 yX0_periodByRounds) ∈ lw_all := lw_in2 (List.mem_of_getElem? (i := 194) (by decide +kernel)) rfl
theorem q2_195 : (Cond.instanceMethod yX0_periodByRounds) ∈ lw_all := lw_in2 (List.mem_of_getElem? (i := 195) (by decide +kernel)) rfl
theorem q2_196 : (Cond.selects RX0 yX0_periodByRounds yX0_periodByRounds) ∈ lw_all := lw_in2 (List.mem_of_getElem? (i := 196) (by decide +kernel)) rfl
theorem q2_197 : (Cond.code yX0_periodByRounds cX0_periodByRounds 7 (some .int)) ∈ lw_all := lw_in2 (List.mem_of_getElem? (i := 197) (by decide +kernel)) rfl
theorem q2_198 : (Cond.methodLink RX0 25 yX0_placeOf) ∈ lw_all := lw_in2 (List.mem_of_getElem? (i := 198) (by decide +kernel)) rfl
theorem q2_200 : (Cond.instanceMethod yX0_placeOf) ∈ lw_all := lw_in2 (List.mem_of_getElem? (i := 200) (by decide +kernel)) rfl
