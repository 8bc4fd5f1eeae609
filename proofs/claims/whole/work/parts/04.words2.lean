theorem q2_83 : (Cond.instanceMethod yX5_keep) ∈ lw_all := lw_in2 (List.mem_of_getElem? (i := 83) (by decide +kernel)) rfl
theorem q2_84 : (Cond.selects RX5 yX5_keep yX5_keep) ∈ lw_all := lw_in2 (List.mem_of_getElem? (i := 84) (by decide +kernel)) rfl
theorem q2_85 : (Cond.code yX5_keep cX5_keep 1 (some .int)) ∈ lw_all := lw_in2 (List.mem_of_getElem? (i := 85) (by decide +kernel)) rfl
theorem q2_86 : (Cond.methodLink RL 142 yX5_closest) ∈ lw_all := lw_in2 (List.mem_of_getElem? (i := 86) (by decide +kernel)) rfl
theorem q2_87 : (Cond.instanceMethod yX5_closest) ∈ lw_all := lw_in2 (List.mem_of_getElem? (i := 87) (by decide +kernel)) rfl
theorem q2_88 : (Cond.selects RX5 yX5_closest yX5_closest) ∈ lw_all := lw_in2 (List.mem_of_getElem? (i := 88) (by decide +kernel)) rfl
theorem q2_89 : (Cond.code yX5_closest cX5_closest 6 (some .int)) ∈ lw_all := lw_in2 (List.mem_of_getElem? (i := 89) (by decide +kernel)) rfl
theorem q2_90 : (Cond.methodLink RX5 209 yX5_showPair) ∈ lw_all := lw_in2 (List.mem_of_getElem? (i := 90) (by decide +kernel)) rfl
theorem q2_92 : (Cond.instanceMethod yX5_showPair) ∈ lw_all := lw_in2 (List.mem_of_getElem? (i := 92) (by decide +kernel)) rfl
theorem q2_93 : (Cond.code yX5_showPair cX5_showPair 3 none) ∈ lw_all := lw_in2 (List.mem_of_getElem? (i := 93) (by decide +kernel)) rfl
theorem q2_94 : (Cond.methodLink RX5 251 yX1_move) ∈ lw_all := lw_in2 (List.mem_of_getElem? (i := 94) (by decide +kernel)) rfl
theorem q2_95 : (Cond.instanceMethod yX1_move) ∈ lw_all := lw_in2 (List.mem_of_getElem? (i := 95) (by decide +kernel)) rfl
theorem q2_96 : (Cond.selects RX1 yX1_move yX1_move) ∈ lw_all := lw_in2 (List.mem_of_getElem? (i := 96) (by decide +kernel)) rfl
theorem q2_97 : (Cond.code yX1_move cX1_move 4 none) ∈ lw_all := lw_in2 (List.mem_of_getElem? (i := 97) (by decide +kernel)) rfl
theorem qn2_98 : (Cond.methodLinkNest RX1 18 yX5_keyOf RX5) ∈ lw_nw := lw_nin2 (List.mem_of_getElem? (i := 98) (by decide +kernel)) rfl
theorem q2_99 : (Cond.methodLink RX1 22 yX1_maskOf) ∈ lw_all := lw_in2 (List.mem_of_getElem? (i := 99) (by decide +kernel)) rfl
theorem q2_100 : (Cond.instanceMethod yX1_maskOf) ∈ lw_all := lw_in2 (List.mem_of_getElem? (i := 100) (by decide +kernel)) rfl
theorem q2_101 : (Cond.selects RX1 yX1_maskOf yX1_maskOf) ∈ lw_all := lw_in2 (List.mem_of_getElem? (i := 101) (by decide +kernel)) rfl
theorem q2_102 : (Cond.code yX1_maskOf cX1_maskOf 2 (some .int)) ∈ lw_all := lw_in2 (List.mem_of_getElem? (i := 102) (by decide +kernel)) rfl
theorem q2_103 : (Cond.methodLink RX1 25 yX1_strengthOf) ∈ lw_all := lw_in2 (List.mem_of_getElem? (i := 103) (by decide +kernel)) rfl
theorem q2_104 : (Cond.instanceMethod yX1_strengthOf) ∈ lw_all := lw_in2 (List.mem_of_getElem? (i := 104) (by decide +kernel)) rfl
theorem q2_105 : (Cond.selects RX1 yX1_strengthOf yX1_strengthOf) ∈ lw_all := lw_in2 (List.mem_of_getElem? (i := 105) (by decide +kernel)) rfl
theorem q2_106 : (Cond.code yX1_strengthOf cX1_strengthOf 2 (some .int)) ∈ lw_all := lw_in2 (List.mem_of_getElem? (i := 106) (by decide +kernel)) rfl
theorem qn2_107 : (Cond.methodLinkNest RX1 28 yX5_isBack RX5) ∈ lw_nw := lw_nin2 (List.mem_of_getElem? (i := 107) (by decide +kernel)) rfl
theorem q2_108 : (Cond.methodLink RX1 32 yX0_rotate) ∈ lw_all := lw_in2 (List.mem_of_getElem? (i := 108) (by decide +kernel)) rfl
theorem q2_109 : (Cond.instanceMethod yX0_rotate) ∈ lw_all := lw_in2 (List.mem_of_getElem? (i := 109) (by decide +kernel)) rfl
theorem q2_110 : (Cond.selects RX0 yX0_rotate yX0_rotate) ∈ lw_all := lw_in2 (List.mem_of_getElem? (i := 110) (by decide +kernel)) rfl
theorem q2_111 : (Cond.code yX0_rotate cX0_rotate 12 none) ∈ lw_all := lw_in2 (List.mem_of_getElem? (i := 111) (by decide +kernel)) rfl
theorem q2_112 : (Cond.methodLink RL 146 yX5_openShare) ∈ lw_all := lw_in2 (List.mem_of_getElem? (i := 112) (by decide +kernel)) rfl
theorem q2_113 : (Cond.instanceMethod yX5_openShare) ∈ lw_all := lw_in2 (List.mem_of_getElem? (i := 113) (by decide +kernel)) rfl
theorem q2_114 : (Cond.selects RX5 yX5_openShare yX5_openShare) ∈ lw_all := lw_in2 (List.mem_of_getElem? (i := 114) (by decide +kernel)) rfl
theorem q2_115 : (Cond.code yX5_openShare cX5_openShare 1 (some .double)) ∈ lw_all := lw_in2 (List.mem_of_getElem? (i := 115) (by decide +kernel)) rfl
theorem q2_116 : (Cond.methodLink RX5 226 yX3_asInSecret) ∈ lw_all := lw_in2 (List.mem_of_getElem? (i := 116) (by decide +kernel)) rfl
theorem q2_117 : (Cond.instanceMethod yX3_asInSecret) ∈ lw_all := lw_in2 (List.mem_of_getElem? (i := 117) (by decide +kernel)) rfl
theorem q2_118 : (Cond.selects RX3 yX3_asInSecret yX3_asInSecret) ∈ lw_all := lw_in2 (List.mem_of_getElem? (i := 118) (by decide +kernel)) rfl
theorem q2_119 : (Cond.code yX3_asInSecret cX3_asInSecret 2 (some .int)) ∈ lw_all := lw_in2 (List.mem_of_getElem? (i := 119) (by decide +kernel)) rfl
theorem q2_120 : (Cond.methodLink RX3 67 yX0_agreeing) ∈ lw_all := lw_in2 (List.mem_of_getElem? (i := 120) (by decide +kernel)) rfl
theorem q2_121 : (Cond.instanceMethod yX0_agreeing) ∈ lw_all := lw_in2 (List.mem_of_getElem? (i := 121) (by decide +kernel)) rfl
theorem q2_122 : (Cond.selects RX0 yX0_agreeing yX0_agreeing) ∈ lw_all := lw_in2 (List.mem_of_getElem? (i := 122) (by decide +kernel)) rfl
theorem q2_123 : (Cond.code yX0_agreeing cX0_agreeing 4 (some .int)) ∈ lw_all := lw_in2 (List.mem_of_getElem? (i := 123) (by decide +kernel)) rfl
theorem q2_124 : ((Jvm.Cond.constantDouble "PairedTumblers" (255 : Nat) (4618441417868443648 : UInt64))) ∈ lw_all := lw_in2 (List.mem_of_getElem? (i := 124) (by decide +kernel)) rfl
theorem q2_125 : (Cond.methodLink RL 151 yX5_meanNotch) ∈ lw_all := lw_in2 (List.mem_of_getElem? (i := 125) (by decide +kernel)) rfl
theorem q2_126 : (Cond.instanceMethod yX5_meanNotch) ∈ lw_all := lw_in2 (List.mem_of_getElem? (i := 126) (by decide +kernel)) rfl
theorem q2_127 : (Cond.selects RX5 yX5_meanNotch yX5_meanNotch) ∈ lw_all := lw_in2 (List.mem_of_getElem? (i := 127) (by decide +kernel)) rfl
theorem q2_128 : (Cond.code yX5_meanNotch cX5_meanNotch 1 (some .float)) ∈ lw_all := lw_in2 (List.mem_of_getElem? (i := 128) (by decide +kernel)) rfl
theorem q2_129 : ((Jvm.Cond.constantFloat "PairedTumblers" (257 : Nat) (1086324736 : UInt32))) ∈ lw_all := lw_in2 (List.mem_of_getElem? (i := 129) (by decide +kernel)) rfl
theorem q2_130 : (Cond.methodLink RL 156 yX5_digest) ∈ lw_all := lw_in2 (List.mem_of_getElem? (i := 130) (by decide +kernel)) rfl
theorem q2_131 : (Cond.instanceMethod yX5_digest) ∈ lw_all := lw_in2 (List.mem_of_getElem? (i := 131) (by decide +kernel)) rfl
theorem q2_132 : (Cond.selects RX5 yX5_digest yX5_digest) ∈ lw_all := lw_in2 (List.mem_of_getElem? (i := 132) (by decide +kernel)) rfl
theorem q2_133 : (Cond.code yX5_digest cX5_digest 4 (some .long)) ∈ lw_all := lw_in2 (List.mem_of_getElem? (i := 133) (by decide +kernel)) rfl
theorem q2_134 : ((Jvm.Cond.constantLong "PairedTumblers" (258 : Nat) (3769 : Int64))) ∈ lw_all := lw_in2 (List.mem_of_getElem? (i := 134) (by decide +kernel)) rfl
theorem q2_135 : (Cond.methodLink RX5 260 yX5_count) ∈ lw_all := lw_in2 (List.mem_of_getElem? (i := 135) (by decide +kernel)) rfl
theorem q2_136 : (Cond.instanceMethod yX5_count) ∈ lw_all := lw_in2 (List.mem_of_getElem? (i := 136) (by decide +kernel)) rfl
theorem q2_137 : (Cond.selects RX5 yX5_count yX5_count) ∈ lw_all := lw_in2 (List.mem_of_getElem? (i := 137) (by decide +kernel)) rfl
theorem q2_138 : (Cond.code yX5_count cX5_count 2 (some .int)) ∈ lw_all := lw_in2 (List.mem_of_getElem? (i := 138) (by decide +kernel)) rfl
theorem q2_139 : (Cond.methodLink RX5 222 yX3_opens) ∈ lw_all := lw_in2 (List.mem_of_getElem? (i := 139) (by decide +kernel)) rfl
theorem q2_140 : (Cond.instanceMethod yX3_opens) ∈ lw_all := lw_in2 (List.mem_of_getElem? (i := 140) (by decide +kernel)) rfl
theorem q2_141 : (Cond.selects RX3 yX3_opens yX3_opens) ∈ lw_all := lw_in2 (List.mem_of_getElem? (i := 141) (by decide +kernel)) rfl
theorem q2_142 : (Cond.code yX3_opens cX3_opens 1 (some .boolean)) ∈ lw_all := lw_in2 (List.mem_of_getElem? (i := 142) (by decide +kernel)) rfl
theorem q2_143 : (Cond.methodLink RX3 71 yX3_asInSecret) ∈ lw_all := lw_in2 (List.mem_of_getElem? (i := 143) (by decide +kernel)) rfl
theorem q2_144 : (Cond.methodLink RX5 143 yX3_stuckKeys) ∈ lw_all := lw_in2 (List.mem_of_getElem? (i := 144) (by decide +kernel)) rfl
theorem q2_145 : (Cond.instanceMethod yX3_stuckKeys) ∈ lw_all := lw_in2 (List.mem_of_getElem? (i := 145) (by decide +kernel)) rfl
theorem q2_146 : (Cond.selects RX3 yX3_stuckKeys yX3_stuckKeys) ∈ lw_all := lw_in2 (List.mem_of_getElem? (i := 146) (by decide +kernel)) rfl
theorem q2_147 : (Cond.code yX3_stuckKeys cX3_stuckKeys 3 (some .int)) ∈ lw_all := lw_in2 (List.mem_of_getElem? (i := 147) (by decide +kernel)) rfl
theorem q2_148 : (Cond.methodLink RX3 63 yX3_allows) ∈ lw_all := lw_in2 (List.mem_of_getElem? (i := 148) (by decide +kernel)) rfl
theorem q2_149 : (Cond.instanceMethod yX3_allows) ∈ lw_all := lw_in2 (List.mem_of_getElem? (i := 149) (by decide +kernel)) rfl
theorem q2_150 : (Cond.selects RX3 yX3_allows yX3_allows) ∈ lw_all := lw_in2 (List.mem_of_getElem? (i := 150) (by decide +kernel)) rfl
theorem q2_151 : (Cond.code yX3_allows cX3_allows 2 (some .boolean)) ∈ lw_all := lw_in2 (List.mem_of_getElem? (i := 151) (by decide +kernel)) rfl
theorem qn2_152 : (Cond.methodLinkNest RX3 56 yX5_keyOf RX5) ∈ lw_nw := lw_nin2 (List.mem_of_getElem? (i := 152) (by decide +kernel)) rfl
theorem q2_153 : (Cond.methodLink RX3 60 yX1_maskOf) ∈ lw_all := lw_in2 (List.mem_of_getElem? (i := 153) (by decide +kernel)) rfl
theorem q2_154 : (Cond.classLink RX5 66 "java/lang/IllegalArgumentException") ∈ lw_all := lw_in2 (List.mem_of_getElem? (i := 154) (by decide +kernel)) rfl
theorem q2_155 : (Cond.instantiable "java/lang/IllegalArgumentException" 6) ∈ lw_all := lw_in2 (List.mem_of_getElem? (i := 155) (by decide +kernel)) rfl
theorem qn2_156 : ((Jvm.Cond.castable "java/lang/IllegalArgumentException" "java/lang/IllegalArgumentException")) ∈ lw_nw := lw_nin2 (List.mem_of_getElem? (i := 156) (by decide +kernel)) rfl
theorem qn2_157 : (Cond.declares ⟨"java/lang/RuntimeException", "<init>", "()V"⟩) ∈ lw_nw := lw_nin2 (List.mem_of_getElem? (i := 157) (by decide +kernel)) rfl
theorem qn2_158 : (Cond.declares ⟨"java/lang/RuntimeException", "<init>", "(Ljava/lang/String;)V"⟩) ∈ lw_nw := lw_nin2 (List.mem_of_getElem? (i := 158) (by decide +kernel)) rfl
theorem qn2_159 : (Cond.declares ⟨"java/lang/Exception", "<init>", "()V"⟩) ∈ lw_nw := lw_nin2 (List.mem_of_getElem? (i := 159) (by decide +kernel)) rfl
theorem qn2_160 : (Cond.declares ⟨"java/lang/Exception", "<init>", "(Ljava/lang/String;)V"⟩) ∈ lw_nw := lw_nin2 (List.mem_of_getElem? (i := 160) (by decide +kernel)) rfl
theorem qn2_161 : (Cond.declares ⟨"java/lang/Throwable", "<init>", "()V"⟩) ∈ lw_nw := lw_nin2 (List.mem_of_getElem? (i := 161) (by decide +kernel)) rfl
theorem qn2_162 : (Cond.declares ⟨"java/lang/Throwable", "<init>", "(Ljava/lang/String;)V"⟩) ∈ lw_nw := lw_nin2 (List.mem_of_getElem? (i := 162) (by decide +kernel)) rfl
theorem q2_163 : (Cond.selects "java/lang/IllegalArgumentException" ⟨"java/lang/Throwable", "fillInStackTrace", "(I)Ljava/lang/Throwable;"⟩ ⟨"java/lang/Throwable", "fillInStackTrace", "(I)Ljava/lang/Throwable;"⟩) ∈ lw_all := lw_in2 (List.mem_of_getElem? (i := 163) (by decide +kernel)) rfl
theorem q2_164 : (Cond.selects "java/lang/IllegalArgumentException" ⟨"java/lang/Throwable", "fillInStackTrace", "()Ljava/lang/Throwable;"⟩ ⟨"java/lang/Throwable", "fillInStackTrace", "()Ljava/lang/Throwable;"⟩) ∈ lw_all := lw_in2 (List.mem_of_getElem? (i := 164) (by decide +kernel)) rfl
theorem q2_165 : ((Jvm.Cond.lays "java/lang/IllegalArgumentException" "java/lang/Throwable" "cause" "Ljava/lang/Throwable;")) ∈ lw_all := lw_in2 (List.mem_of_getElem? (i := 165) (by decide +kernel)) rfl
theorem q2_166 : ((Jvm.Cond.lays "java/lang/Throwable" "java/lang/Throwable" "cause" "Ljava/lang/Throwable;")) ∈ lw_all := lw_in2 (List.mem_of_getElem? (i := 166) (by decide +kernel)) rfl
theorem q2_167 : ((Jvm.Cond.lays "java/lang/IllegalArgumentException" "java/lang/Throwable" "stackTrace" "[Ljava/lang/StackTraceElement;")) ∈ lw_all := lw_in2 (List.mem_of_getElem? (i := 167) (by decide +kernel)) rfl
theorem q2_168 : ((Jvm.Cond.lays "java/lang/Throwable" "java/lang/Throwable" "stackTrace" "[Ljava/lang/StackTraceElement;")) ∈ lw_all := lw_in2 (List.mem_of_getElem? (i := 168) (by decide +kernel)) rfl
theorem q2_169 : ((Jvm.Cond.lays "java/lang/IllegalArgumentException" "java/lang/Throwable" "suppressedExceptions" "Ljava/util/List;")) ∈ lw_all := lw_in2 (List.mem_of_getElem? (i := 169) (by decide +kernel)) rfl
theorem q2_170 : ((Jvm.Cond.lays "java/lang/Throwable" "java/lang/Throwable" "suppressedExceptions" "Ljava/util/List;")) ∈ lw_all := lw_in2 (List.mem_of_getElem? (i := 170) (by decide +kernel)) rfl
theorem q2_171 : ((Jvm.Cond.lays "java/lang/IllegalArgumentException" "java/lang/Throwable" "detailMessage" "Ljava/lang/String;")) ∈ lw_all := lw_in2 (List.mem_of_getElem? (i := 171) (by decide +kernel)) rfl
theorem q2_172 : ((Jvm.Cond.lays "java/lang/Throwable" "java/lang/Throwable" "detailMessage" "Ljava/lang/String;")) ∈ lw_all := lw_in2 (List.mem_of_getElem? (i := 172) (by decide +kernel)) rfl
theorem q2_173 : ((Jvm.Cond.lays "java/lang/IllegalArgumentException" "java/lang/Throwable" "backtrace" "Ljava/lang/Object;")) ∈ lw_all := lw_in2 (List.mem_of_getElem? (i := 173) (by decide +kernel)) rfl
theorem q2_174 : ((Jvm.Cond.lays "java/lang/Throwable" "java/lang/Throwable" "backtrace" "Ljava/lang/Object;")) ∈ lw_all := lw_in2 (List.mem_of_getElem? (i := 174) (by decide +kernel)) rfl
theorem q2_175 : (Cond.fieldLink "java/lang/Throwable" 198 "java/lang/Throwable" "backtrace" "Ljava/lang/Object;") ∈ lw_all := lw_in2 (List.mem_of_getElem? (i := 175) (by decide +kernel)) rfl
theorem q2_176 : ((Jvm.Cond.superclass "java/lang/Throwable" "java/lang/Object")) ∈ lw_all := lw_in2 (List.mem_of_getElem? (i := 176) (by decide +kernel)) rfl
theorem q2_177 : (Cond.instanceMethod ⟨"java/lang/Throwable", "<init>", "()V"⟩) ∈ lw_all := lw_in2 (List.mem_of_getElem? (i := 177) (by decide +kernel)) rfl
theorem q2_178 : ((Jvm.Cond.code ({ cls := "java/lang/Throwable", name := "<init>", desc := "()V" } : Jvm.MethodName) prog_19_method_1_code (1 : Nat) (Option.none : Option Jvm.ClassFile.FieldType))) ∈ lw_all := lw_in2 (List.mem_of_getElem? (i := 178) (by decide +kernel)) rfl
theorem q2_179 : (Cond.methodLink "java/lang/Throwable" 1 ⟨"java/lang/Object", "<init>", "()V"⟩) ∈ lw_all := lw_in2 (List.mem_of_getElem? (i := 179) (by decide +kernel)) rfl
theorem q2_180 : (Cond.fieldLink "java/lang/Throwable" 13 "java/lang/Throwable" "UNASSIGNED_STACK" "[Ljava/lang/StackTraceElement;") ∈ lw_all := lw_in2 (List.mem_of_getElem? (i := 180) (by decide +kernel)) rfl
theorem q2_182 : (Cond.fieldLink "java/lang/Throwable" 20 "java/lang/Throwable" "SUPPRESSED_SENTINEL" "Ljava/util/List;") ∈ lw_all := lw_in2 (List.mem_of_getElem? (i := 182) (by decide +kernel)) rfl
theorem q2_184 : (Cond.methodLink "java/lang/Throwable" 27 ⟨"java/lang/Throwable", "fillInStackTrace", "()Ljava/lang/Throwable;"⟩) ∈ lw_all := lw_in2 (List.mem_of_getElem? (i := 184) (by decide +kernel)) rfl
theorem q2_185 : (Cond.instanceMethod ⟨"java/lang/Throwable", "fillInStackTrace", "()Ljava/lang/Throwable;"⟩) ∈ lw_all := lw_in2 (List.mem_of_getElem? (i := 185) (by decide +kernel)) rfl
theorem q2_186 : ((Jvm.Cond.sameMethod "java/lang/Throwable" "java/lang/Throwable" "fillInStackTrace" "()Ljava/lang/Throwable;")) ∈ lw_all := lw_in2 (List.mem_of_getElem? (i := 186) (by decide +kernel)) rfl
theorem q2_187 : (Cond.selects "java/lang/IllegalStateException" ⟨"java/lang/Throwable", "fillInStackTrace", "()Ljava/lang/Throwable;"⟩ ⟨"java/lang/Throwable", "fillInStackTrace", "()Ljava/lang/Throwable;"⟩) ∈ lw_all := lw_in2 (List.mem_of_getElem? (i := 187) (by decide +kernel)) rfl
theorem q2_188 : (Cond.selects "java/lang/IndexOutOfBoundsException" ⟨"java/lang/Throwable", "fillInStackTrace", "()Ljava/lang/Throwable;"⟩ ⟨"java/lang/Throwable", "fillInStackTrace", "()Ljava/lang/Throwable;"⟩) ∈ lw_all := lw_in2 (List.mem_of_getElem? (i := 188) (by decide +kernel)) rfl
theorem q2_189 : ((Jvm.Cond.codeSync ({ cls := "java/lang/Throwable", name := "fillInStackTrace", desc := "()Ljava/lang/Throwable;" } : Jvm.MethodName) prog_19_method_18_code (1 : Nat) (Option.some (Jvm.ClassFile.FieldType.object "java/lang/Throwable")))) ∈ lw_all := lw_in2 (List.mem_of_getElem? (i := 189) (by decide +kernel)) rfl
theorem q2_190 : (Cond.methodLink "java/lang/Throwable" 202 ⟨"java/lang/Throwable", "fillInStackTrace", "(I)Ljava/lang/Throwable;"⟩) ∈ lw_all := lw_in2 (List.mem_of_getElem? (i := 190) (by decide +kernel)) rfl
theorem q2_192 : (Cond.instanceMethod ⟨"java/lang/Throwable", "fillInStackTrace", "(I)Ljava/lang/Throwable;"⟩) ∈ lw_all := lw_in2 (List.mem_of_getElem? (i := 192) (by decide +kernel)) rfl
theorem q2_193 : (Cond.instantiable "java/lang/Throwable" 6) ∈ lw_all := lw_in2 (List.mem_of_getElem? (i := 193) (by decide +kernel)) rfl
theorem q2_194 : (Cond.native ⟨"java/lang/Throwable", "fillInStackTrace", "(I)Ljava/lang/Throwable;"⟩) ∈ lw_all := lw_in2 (List.mem_of_getElem? (i := 194) (by decide +kernel)) rfl
theorem q2_196 : (Cond.methodLink RX5 70 ⟨"java/lang/IllegalArgumentException", "<init>", "(Ljava/lang/String;)V"⟩) ∈ lw_all := lw_in2 (List.mem_of_getElem? (i := 196) (by decide +kernel)) rfl
theorem q2_197 : (Cond.instanceMethod ⟨"java/lang/IllegalArgumentException", "<init>", "(Ljava/lang/String;)V"⟩) ∈ lw_all := lw_in2 (List.mem_of_getElem? (i := 197) (by decide +kernel)) rfl
theorem q2_198 : ((Jvm.Cond.code ({ cls := "java/lang/IllegalArgumentException", name := "<init>", desc := "(Ljava/lang/String;)V" } : Jvm.MethodName) prog_12_method_2_code (2 : Nat) (Option.none : Option Jvm.ClassFile.FieldType))) ∈ lw_all := lw_in2 (List.mem_of_getElem? (i := 198) (by decide +kernel)) rfl
theorem q2_199 : (Cond.methodLink "java/lang/IllegalArgumentException" 7 ⟨"java/lang/RuntimeException", "<init>", "(Ljava/lang/String;)V"⟩) ∈ lw_all := lw_in2 (List.mem_of_getElem? (i := 199) (by decide +kernel)) rfl
theorem q2_200 : (Cond.instanceMethod ⟨"java/lang/RuntimeException", "<init>", "(Ljava/lang/String;)V"⟩) ∈ lw_all := lw_in2 (List.mem_of_getElem? (i := 200) (by decide +kernel)) rfl
theorem q2_201 : ((Jvm.Cond.code ({ cls := "java/lang/RuntimeException", name := "<init>", desc := "(Ljava/lang/String;)V" } : Jvm.MethodName) prog_17_method_2_code (2 : Nat) (Option.none : Option Jvm.ClassFile.FieldType))) ∈ lw_all := lw_in2 (List.mem_of_getElem? (i := 201) (by decide +kernel)) rfl
theorem q2_202 : (Cond.methodLink "java/lang/RuntimeException" 7 ⟨"java/lang/Exception", "<init>", "(Ljava/lang/String;)V"⟩) ∈ lw_all := lw_in2 (List.mem_of_getElem? (i := 202) (by decide +kernel)) rfl
theorem q2_203 : (Cond.instanceMethod ⟨"java/lang/Exception", "<init>", "(Ljava/lang/String;)V"⟩) ∈ lw_all := lw_in2 (List.mem_of_getElem? (i := 203) (by decide +kernel)) rfl
theorem q2_204 : ((Jvm.Cond.code ({ cls := "java/lang/Exception", name := "<init>", desc := "(Ljava/lang/String;)V" } : Jvm.MethodName) prog_10_method_2_code (2 : Nat) (Option.none : Option Jvm.ClassFile.FieldType))) ∈ lw_all := lw_in2 (List.mem_of_getElem? (i := 204) (by decide +kernel)) rfl
theorem q2_205 : (Cond.methodLink "java/lang/Exception" 7 ⟨"java/lang/Throwable", "<init>", "(Ljava/lang/String;)V"⟩) ∈ lw_all := lw_in2 (List.mem_of_getElem? (i := 205) (by decide +kernel)) rfl
theorem q2_206 : (Cond.instanceMethod ⟨"java/lang/Throwable", "<init>", "(Ljava/lang/String;)V"⟩) ∈ lw_all := lw_in2 (List.mem_of_getElem? (i := 206) (by decide +kernel)) rfl
theorem q2_207 : ((Jvm.Cond.code ({ cls := "java/lang/Throwable", name := "<init>", desc := "(Ljava/lang/String;)V" } : Jvm.MethodName) prog_19_method_2_code (2 : Nat) (Option.none : Option Jvm.ClassFile.FieldType))) ∈ lw_all := lw_in2 (List.mem_of_getElem? (i := 207) (by decide +kernel)) rfl
theorem q2_208 : (Cond.fieldLink "java/lang/Throwable" 198 "java/lang/Throwable" "backtrace" "Ljava/lang/Object;") ∈ lw_all := lw_in2 (List.mem_of_getElem? (i := 208) (by decide +kernel)) rfl
theorem q2_209 : (Cond.fieldLink "java/lang/Throwable" 31 "java/lang/Throwable" "detailMessage" "Ljava/lang/String;") ∈ lw_all := lw_in2 (List.mem_of_getElem? (i := 209) (by decide +kernel)) rfl
theorem q2_210 : (Cond.fieldLink "java/lang/Throwable" 7 "java/lang/Throwable" "cause" "Ljava/lang/Throwable;") ∈ lw_all := lw_in2 (List.mem_of_getElem? (i := 210) (by decide +kernel)) rfl
theorem q2_211 : (Cond.fieldLink "java/lang/Throwable" 17 "java/lang/Throwable" "stackTrace" "[Ljava/lang/StackTraceElement;") ∈ lw_all := lw_in2 (List.mem_of_getElem? (i := 211) (by decide +kernel)) rfl
theorem q2_212 : (Cond.fieldLink "java/lang/Throwable" 24 "java/lang/Throwable" "suppressedExceptions" "Ljava/util/List;") ∈ lw_all := lw_in2 (List.mem_of_getElem? (i := 212) (by decide +kernel)) rfl
theorem q2_213 : ((Jvm.Cond.soleField "java/lang/Throwable" "backtrace")) ∈ lw_all := lw_in2 (List.mem_of_getElem? (i := 213) (by decide +kernel)) rfl
theorem q2_214 : ((Jvm.Cond.soleField "java/lang/Throwable" "detailMessage")) ∈ lw_all := lw_in2 (List.mem_of_getElem? (i := 214) (by decide +kernel)) rfl
theorem q2_215 : ((Jvm.Cond.soleField "java/lang/Throwable" "cause")) ∈ lw_all := lw_in2 (List.mem_of_getElem? (i := 215) (by decide +kernel)) rfl
theorem q2_216 : ((Jvm.Cond.soleField "java/lang/Throwable" "stackTrace")) ∈ lw_all := lw_in2 (List.mem_of_getElem? (i := 216) (by decide +kernel)) rfl
theorem q2_217 : ((Jvm.Cond.lays "java/lang/IllegalArgumentException" "java/lang/Throwable" "depth" "I")) ∈ lw_all := lw_in2 (List.mem_of_getElem? (i := 217) (by decide +kernel)) rfl
theorem q2_218 : ((Jvm.Cond.soleField "java/lang/Throwable" "depth")) ∈ lw_all := lw_in2 (List.mem_of_getElem? (i := 218) (by decide +kernel)) rfl
theorem q2_219 : ((Jvm.Cond.soleField "java/lang/Throwable" "suppressedExceptions")) ∈ lw_all := lw_in2 (List.mem_of_getElem? (i := 219) (by decide +kernel)) rfl
theorem q2_220 : ((Jvm.Cond.superclass "java/lang/IllegalArgumentException" "java/lang/RuntimeException")) ∈ lw_all := lw_in2 (List.mem_of_getElem? (i := 220) (by decide +kernel)) rfl
theorem q2_221 : ((Jvm.Cond.arrayClass Jvm.ClassFile.FieldType.byte)) ∈ lw_all := lw_in2 (List.mem_of_getElem? (i := 221) (by decide +kernel)) rfl
theorem q2_222 : (Cond.methodLink RX5 263 yX5_mix) ∈ lw_all := lw_in2 (List.mem_of_getElem? (i := 222) (by decide +kernel)) rfl
theorem q2_223 : (Cond.static yX5_mix) ∈ lw_all := lw_in2 (List.mem_of_getElem? (i := 223) (by decide +kernel)) rfl
theorem q2_224 : (Cond.code yX5_mix cX5_mix 4 (some .long)) ∈ lw_all := lw_in2 (List.mem_of_getElem? (i := 224) (by decide +kernel)) rfl
theorem q2_225 : ((Jvm.Cond.constantLong "PairedTumblers" (327 : Nat) (31 : Int64))) ∈ lw_all := lw_in2 (List.mem_of_getElem? (i := 225) (by decide +kernel)) rfl
theorem q2_226 : (Cond.methodLink RX5 267 yX5_mixPositions) ∈ lw_all := lw_in2 (List.mem_of_getElem? (i := 226) (by decide +kernel)) rfl
theorem q2_228 : (Cond.instanceMethod yX5_mixPositions) ∈ lw_all := lw_in2 (List.mem_of_getElem? (i := 228) (by decide +kernel)) rfl
theorem q2_229 : (Cond.code yX5_mixPositions cX5_mixPositions 7 (some .long)) ∈ lw_all := lw_in2 (List.mem_of_getElem? (i := 229) (by decide +kernel)) rfl
theorem q2_230 : (Cond.methodLink RX5 329 yX5_at) ∈ lw_all := lw_in2 (List.mem_of_getElem? (i := 230) (by decide +kernel)) rfl
theorem q2_231 : (Cond.instanceMethod yX5_at) ∈ lw_all := lw_in2 (List.mem_of_getElem? (i := 231) (by decide +kernel)) rfl
theorem q2_232 : (Cond.selects RX5 yX5_at yX5_at) ∈ lw_all := lw_in2 (List.mem_of_getElem? (i := 232) (by decide +kernel)) rfl
theorem q2_233 : (Cond.code yX5_at cX5_at 3 (some .int)) ∈ lw_all := lw_in2 (List.mem_of_getElem? (i := 233) (by decide +kernel)) rfl
theorem q2_234 : (Cond.methodLink RX5 137 yX5_requirePosition) ∈ lw_all := lw_in2 (List.mem_of_getElem? (i := 234) (by decide +kernel)) rfl
theorem q2_235 : (Cond.static yX5_requirePosition) ∈ lw_all := lw_in2 (List.mem_of_getElem? (i := 235) (by decide +kernel)) rfl
theorem q2_236 : (Cond.code yX5_requirePosition cX5_requirePosition 1 none) ∈ lw_all := lw_in2 (List.mem_of_getElem? (i := 236) (by decide +kernel)) rfl
theorem q2_237 : (Cond.classLink RX5 302 "java/lang/IndexOutOfBoundsException") ∈ lw_all := lw_in2 (List.mem_of_getElem? (i := 237) (by decide +kernel)) rfl
theorem q2_238 : (Cond.instantiable "java/lang/IndexOutOfBoundsException" 6) ∈ lw_all := lw_in2 (List.mem_of_getElem? (i := 238) (by decide +kernel)) rfl
theorem qn2_239 : ((Jvm.Cond.castable "java/lang/IndexOutOfBoundsException" "java/lang/IndexOutOfBoundsException")) ∈ lw_nw := lw_nin2 (List.mem_of_getElem? (i := 239) (by decide +kernel)) rfl
theorem q3_0 : (Cond.selects "java/lang/IndexOutOfBoundsException" ⟨"java/lang/Throwable", "fillInStackTrace", "(I)Ljava/lang/Throwable;"⟩ ⟨"java/lang/Throwable", "fillInStackTrace", "(I)Ljava/lang/Throwable;"⟩) ∈ lw_all := lw_in3 (List.mem_of_getElem? (i := 0) (by decide +kernel)) rfl
theorem q3_1 : ((Jvm.Cond.lays "java/lang/IndexOutOfBoundsException" "java/lang/Throwable" "cause" "Ljava/lang/Throwable;")) ∈ lw_all := lw_in3 (List.mem_of_getElem? (i := 1) (by decide +kernel)) rfl
theorem q3_2 : ((Jvm.Cond.lays "java/lang/IndexOutOfBoundsException" "java/lang/Throwable" "stackTrace" "[Ljava/lang/StackTraceElement;")) ∈ lw_all := lw_in3 (List.mem_of_getElem? (i := 2) (by decide +kernel)) rfl
theorem q3_3 : ((Jvm.Cond.lays "java/lang/IndexOutOfBoundsException" "java/lang/Throwable" "suppressedExceptions" "Ljava/util/List;")) ∈ lw_all := lw_in3 (List.mem_of_getElem? (i := 3) (by decide +kernel)) rfl
theorem q3_4 : ((Jvm.Cond.lays "java/lang/IndexOutOfBoundsException" "java/lang/Throwable" "detailMessage" "Ljava/lang/String;")) ∈ lw_all := lw_in3 (List.mem_of_getElem? (i := 4) (by decide +kernel)) rfl
theorem q3_5 : ((Jvm.Cond.lays "java/lang/IndexOutOfBoundsException" "java/lang/Throwable" "backtrace" "Ljava/lang/Object;")) ∈ lw_all := lw_in3 (List.mem_of_getElem? (i := 5) (by decide +kernel)) rfl
theorem q3_7 : (Cond.methodLink RX5 306 ⟨"java/lang/IndexOutOfBoundsException", "<init>", "(Ljava/lang/String;)V"⟩) ∈ lw_all := lw_in3 (List.mem_of_getElem? (i := 7) (by decide +kernel)) rfl
theorem q3_8 : (Cond.instanceMethod ⟨"java/lang/IndexOutOfBoundsException", "<init>", "(Ljava/lang/String;)V"⟩) ∈ lw_all := lw_in3 (List.mem_of_getElem? (i := 8) (by decide +kernel)) rfl
theorem q3_9 : ((Jvm.Cond.code ({ cls := "java/lang/IndexOutOfBoundsException", name := "<init>", desc := "(Ljava/lang/String;)V" } : Jvm.MethodName) prog_14_method_2_code (2 : Nat) (Option.none : Option Jvm.ClassFile.FieldType))) ∈ lw_all := lw_in3 (List.mem_of_getElem? (i := 9) (by decide +kernel)) rfl
theorem q3_10 : (Cond.methodLink "java/lang/IndexOutOfBoundsException" 7 ⟨"java/lang/RuntimeException", "<init>", "(Ljava/lang/String;)V"⟩) ∈ lw_all := lw_in3 (List.mem_of_getElem? (i := 10) (by decide +kernel)) rfl
theorem q3_11 : ((Jvm.Cond.lays "java/lang/IndexOutOfBoundsException" "java/lang/Throwable" "depth" "I")) ∈ lw_all := lw_in3 (List.mem_of_getElem? (i := 11) (by decide +kernel)) rfl
theorem q3_12 : ((Jvm.Cond.superclass "java/lang/IndexOutOfBoundsException" "java/lang/RuntimeException")) ∈ lw_all := lw_in3 (List.mem_of_getElem? (i := 12) (by decide +kernel)) rfl
theorem q3_13 : (Cond.methodLink RX5 177 yX0_discAt) ∈ lw_all := lw_in3 (List.mem_of_getElem? (i := 13) (by decide +kernel)) rfl
theorem q3_14 : (Cond.instanceMethod yX0_discAt) ∈ lw_all := lw_in3 (List.mem_of_getElem? (i := 14) (by decide +kernel)) rfl
theorem q3_15 : (Cond.selects RX0 yX0_discAt yX0_discAt) ∈ lw_all := lw_in3 (List.mem_of_getElem? (i := 15) (by decide +kernel)) rfl
theorem q3_16 : (Cond.code yX0_discAt cX0_discAt 2 (some .int)) ∈ lw_all := lw_in3 (List.mem_of_getElem? (i := 16) (by decide +kernel)) rfl
theorem q3_17 : (Cond.methodLink RX5 180 yX0_notchAt) ∈ lw_all := lw_in3 (List.mem_of_getElem? (i := 17) (by decide +kernel)) rfl
theorem q3_18 : (Cond.instanceMethod yX0_notchAt) ∈ lw_all := lw_in3 (List.mem_of_getElem? (i := 18) (by decide +kernel)) rfl
theorem q3_19 : (Cond.selects RX0 yX0_notchAt yX0_notchAt) ∈ lw_all := lw_in3 (List.mem_of_getElem? (i := 19) (by decide +kernel)) rfl
theorem q3_20 : (Cond.code yX0_notchAt cX0_notchAt 2 (some .int)) ∈ lw_all := lw_in3 (List.mem_of_getElem? (i := 20) (by decide +kernel)) rfl
theorem q3_21 : (Cond.methodLink RX5 183 yX0_agreesAt) ∈ lw_all := lw_in3 (List.mem_of_getElem? (i := 21) (by decide +kernel)) rfl
theorem q3_22 : (Cond.instanceMethod yX0_agreesAt) ∈ lw_all := lw_in3 (List.mem_of_getElem? (i := 22) (by decide +kernel)) rfl
theorem q3_23 : (Cond.selects RX0 yX0_agreesAt yX0_agreesAt) ∈ lw_all := lw_in3 (List.mem_of_getElem? (i := 23) (by decide +kernel)) rfl
theorem q3_24 : (Cond.code yX0_agreesAt cX0_agreesAt 3 (some .boolean)) ∈ lw_all := lw_in3 (List.mem_of_getElem? (i := 24) (by decide +kernel)) rfl
theorem q3_25 : (Cond.methodLink RX0 18 yX0_discAt) ∈ lw_all := lw_in3 (List.mem_of_getElem? (i := 25) (by decide +kernel)) rfl
theorem q3_26 : (Cond.methodLink RX0 22 yX0_notchAt) ∈ lw_all := lw_in3 (List.mem_of_getElem? (i := 26) (by decide +kernel)) rfl
theorem q3_27 : (Cond.methodLink RX5 187 yX1_keysAt) ∈ lw_all := lw_in3 (List.mem_of_getElem? (i := 27) (by decide +kernel)) rfl
theorem q3_28 : (Cond.instanceMethod yX1_keysAt) ∈ lw_all := lw_in3 (List.mem_of_getElem? (i := 28) (by decide +kernel)) rfl
theorem q3_29 : (Cond.selects RX1 yX1_keysAt yX1_keysAt) ∈ lw_all := lw_in3 (List.mem_of_getElem? (i := 29) (by decide +kernel)) rfl
theorem q3_30 : (Cond.code yX1_keysAt cX1_keysAt 4 (some .int)) ∈ lw_all := lw_in3 (List.mem_of_getElem? (i := 30) (by decide +kernel)) rfl
theorem q3_32 : (Cond.methodLink RX5 271 yX5_mixKeys) ∈ lw_all := lw_in3 (List.mem_of_getElem? (i := 32) (by decide +kernel)) rfl
theorem q3_34 : (Cond.instanceMethod yX5_mixKeys) ∈ lw_all := lw_in3 (List.mem_of_getElem? (i := 34) (by decide +kernel)) rfl
theorem q3_35 : (Cond.code yX5_mixKeys cX5_mixKeys 7 (some .long)) ∈ lw_all := lw_in3 (List.mem_of_getElem? (i := 35) (by decide +kernel)) rfl
theorem q3_36 : (Cond.methodLink RX5 332 yX5_key) ∈ lw_all := lw_in3 (List.mem_of_getElem? (i := 36) (by decide +kernel)) rfl
theorem q3_37 : (Cond.instanceMethod yX5_key) ∈ lw_all := lw_in3 (List.mem_of_getElem? (i := 37) (by decide +kernel)) rfl
theorem q3_38 : (Cond.selects RX5 yX5_key yX5_key) ∈ lw_all := lw_in3 (List.mem_of_getElem? (i := 38) (by decide +kernel)) rfl
theorem q3_39 : (Cond.code yX5_key cX5_key 3 (some .int)) ∈ lw_all := lw_in3 (List.mem_of_getElem? (i := 39) (by decide +kernel)) rfl
theorem q3_40 : (Cond.methodLink RX5 116 yX5_requireKey) ∈ lw_all := lw_in3 (List.mem_of_getElem? (i := 40) (by decide +kernel)) rfl
theorem q3_41 : (Cond.static yX5_requireKey) ∈ lw_all := lw_in3 (List.mem_of_getElem? (i := 41) (by decide +kernel)) rfl
theorem q3_42 : (Cond.code yX5_requireKey cX5_requireKey 1 none) ∈ lw_all := lw_in3 (List.mem_of_getElem? (i := 42) (by decide +kernel)) rfl
theorem q3_44 : (Cond.methodLink RX5 128 yX1_maskOf) ∈ lw_all := lw_in3 (List.mem_of_getElem? (i := 44) (by decide +kernel)) rfl
theorem q3_45 : (Cond.methodLink RX5 192 yX1_strengthOf) ∈ lw_all := lw_in3 (List.mem_of_getElem? (i := 45) (by decide +kernel)) rfl
theorem q3_46 : (Cond.methodLink RX5 195 yX5_showKey) ∈ lw_all := lw_in3 (List.mem_of_getElem? (i := 46) (by decide +kernel)) rfl
theorem q3_48 : (Cond.instanceMethod yX5_showKey) ∈ lw_all := lw_in3 (List.mem_of_getElem? (i := 48) (by decide +kernel)) rfl
theorem q3_49 : (Cond.code yX5_showKey cX5_showKey 2 none) ∈ lw_all := lw_in3 (List.mem_of_getElem? (i := 49) (by decide +kernel)) rfl
theorem q3_50 : (Cond.methodLink RX5 198 yX5_periodByDoing) ∈ lw_all := lw_in3 (List.mem_of_getElem? (i := 50) (by decide +kernel)) rfl
theorem q3_52 : (Cond.instanceMethod yX5_periodByDoing) ∈ lw_all := lw_in3 (List.mem_of_getElem? (i := 52) (by decide +kernel)) rfl
theorem q3_53 : (Cond.code yX5_periodByDoing cX5_periodByDoing 2 (some .int)) ∈ lw_all := lw_in3 (List.mem_of_getElem? (i := 53) (by decide +kernel)) rfl
theorem q3_54 : ((Jvm.Cond.constant "PairedTumblers" (323 : Nat) (1000000 : Int32))) ∈ lw_all := lw_in3 (List.mem_of_getElem? (i := 54) (by decide +kernel)) rfl
theorem q3_55 : (Cond.methodLink RX5 324 yX0_putAhead) ∈ lw_all := lw_in3 (List.mem_of_getElem? (i := 55) (by decide +kernel)) rfl
theorem q3_56 : (Cond.instanceMethod yX0_putAhead) ∈ lw_all := lw_in3 (List.mem_of_getElem? (i := 56) (by decide +kernel)) rfl
theorem q3_57 : (Cond.selects RX0 yX0_putAhead yX0_putAhead) ∈ lw_all := lw_in3 (List.mem_of_getElem? (i := 57) (by decide +kernel)) rfl
theorem q3_58 : (Cond.code yX0_putAhead cX0_putAhead 4 none) ∈ lw_all := lw_in3 (List.mem_of_getElem? (i := 58) (by decide +kernel)) rfl
theorem q3_59 : (Cond.methodLink RX5 201 yX0_periodByRounds) ∈ lw_all := lw_in3 (List.mem_of_getElem? (i := 59) (by decide +kernel)) rfl
theorem q3_60 : (Cond.instanceMethod yX0_periodByRounds) ∈ lw_all := lw_in3 (List.mem_of_getElem? (i := 60) (by decide +kernel)) rfl
theorem q3_61 : (Cond.selects RX0 yX0_periodByRounds yX0_periodByRounds) ∈ lw_all := lw_in3 (List.mem_of_getElem? (i := 61) (by decide +kernel)) rfl
theorem q3_62 : (Cond.code yX0_periodByRounds cX0_periodByRounds 7 (some .int)) ∈ lw_all := lw_in3 (List.mem_of_getElem? (i := 62) (by decide +kernel)) rfl
theorem q3_63 : (Cond.methodLink RX0 25 yX0_placeOf) ∈ lw_all := lw_in3 (List.mem_of_getElem? (i := 63) (by decide +kernel)) rfl
theorem q3_65 : (Cond.instanceMethod yX0_placeOf) ∈ lw_all := lw_in3 (List.mem_of_getElem? (i := 65) (by decide +kernel)) rfl
theorem q3_66 : (Cond.code yX0_placeOf cX0_placeOf 4 (some .int)) ∈ lw_all := lw_in3 (List.mem_of_getElem? (i := 66) (by decide +kernel)) rfl
theorem q3_67 : (Cond.methodLink RX0 28 yX0_leastMultiple) ∈ lw_all := lw_in3 (List.mem_of_getElem? (i := 67) (by decide +kernel)) rfl
theorem q3_68 : (Cond.static yX0_leastMultiple) ∈ lw_all := lw_in3 (List.mem_of_getElem? (i := 68) (by decide +kernel)) rfl
theorem q3_69 : (Cond.code yX0_leastMultiple cX0_leastMultiple 4 (some .int)) ∈ lw_all := lw_in3 (List.mem_of_getElem? (i := 69) (by decide +kernel)) rfl
theorem q3_70 : (Cond.methodLink RX5 88 yX3_allows) ∈ lw_all := lw_in3 (List.mem_of_getElem? (i := 70) (by decide +kernel)) rfl
theorem q3_71 : (Cond.methodLink RX5 204 yX3_usesOf) ∈ lw_all := lw_in3 (List.mem_of_getElem? (i := 71) (by decide +kernel)) rfl
theorem q3_72 : (Cond.instanceMethod yX3_usesOf) ∈ lw_all := lw_in3 (List.mem_of_getElem? (i := 72) (by decide +kernel)) rfl
theorem q3_73 : (Cond.selects RX3 yX3_usesOf yX3_usesOf) ∈ lw_all := lw_in3 (List.mem_of_getElem? (i := 73) (by decide +kernel)) rfl
theorem q3_74 : (Cond.code yX3_usesOf cX3_usesOf 2 (some .int)) ∈ lw_all := lw_in3 (List.mem_of_getElem? (i := 74) (by decide +kernel)) rfl
theorem q3_76 : (Cond.methodLink RX5 335 yX5_ifTurned) ∈ lw_all := lw_in3 (List.mem_of_getElem? (i := 76) (by decide +kernel)) rfl
theorem q3_77 : (Cond.instanceMethod yX5_ifTurned) ∈ lw_all := lw_in3 (List.mem_of_getElem? (i := 77) (by decide +kernel)) rfl
theorem q3_78 : (Cond.selects RX5 yX5_ifTurned yX5_ifTurned) ∈ lw_all := lw_in3 (List.mem_of_getElem? (i := 78) (by decide +kernel)) rfl
theorem q3_79 : (Cond.code yX5_ifTurned cX5_ifTurned 3 (some .int)) ∈ lw_all := lw_in3 (List.mem_of_getElem? (i := 79) (by decide +kernel)) rfl
theorem q3_81 : (Cond.methodLink RX5 274 yX5_mixPairs) ∈ lw_all := lw_in3 (List.mem_of_getElem? (i := 81) (by decide +kernel)) rfl
theorem q3_83 : (Cond.instanceMethod yX5_mixPairs) ∈ lw_all := lw_in3 (List.mem_of_getElem? (i := 83) (by decide +kernel)) rfl
theorem q3_84 : (Cond.code yX5_mixPairs cX5_mixPairs 8 (some .long)) ∈ lw_all := lw_in3 (List.mem_of_getElem? (i := 84) (by decide +kernel)) rfl
theorem q3_85 : (Cond.methodLink RX5 338 yX5_pair) ∈ lw_all := lw_in3 (List.mem_of_getElem? (i := 85) (by decide +kernel)) rfl
theorem q3_86 : (Cond.instanceMethod yX5_pair) ∈ lw_all := lw_in3 (List.mem_of_getElem? (i := 86) (by decide +kernel)) rfl
theorem q3_87 : (Cond.selects RX5 yX5_pair yX5_pair) ∈ lw_all := lw_in3 (List.mem_of_getElem? (i := 87) (by decide +kernel)) rfl
theorem q3_88 : (Cond.code yX5_pair cX5_pair 4 (some .int)) ∈ lw_all := lw_in3 (List.mem_of_getElem? (i := 88) (by decide +kernel)) rfl
theorem q3_89 : (Cond.methodLink RX5 277 yX5_openIn) ∈ lw_all := lw_in3 (List.mem_of_getElem? (i := 89) (by decide +kernel)) rfl
theorem q3_90 : (Cond.instanceMethod yX5_openIn) ∈ lw_all := lw_in3 (List.mem_of_getElem? (i := 90) (by decide +kernel)) rfl
theorem q3_91 : (Cond.selects RX5 yX5_openIn yX5_openIn) ∈ lw_all := lw_in3 (List.mem_of_getElem? (i := 91) (by decide +kernel)) rfl
theorem q3_92 : (Cond.code yX5_openIn cX5_openIn 2 (some .int)) ∈ lw_all := lw_in3 (List.mem_of_getElem? (i := 92) (by decide +kernel)) rfl
theorem q3_94 : (Cond.methodLink RX5 237 yX2_search) ∈ lw_all := lw_in3 (List.mem_of_getElem? (i := 94) (by decide +kernel)) rfl
theorem q3_95 : (Cond.instanceMethod yX2_search) ∈ lw_all := lw_in3 (List.mem_of_getElem? (i := 95) (by decide +kernel)) rfl
theorem q3_96 : (Cond.selects RX2 yX2_search yX2_search) ∈ lw_all := lw_in3 (List.mem_of_getElem? (i := 96) (by decide +kernel)) rfl
theorem q3_97 : (Cond.code yX2_search cX2_search 3 none) ∈ lw_all := lw_in3 (List.mem_of_getElem? (i := 97) (by decide +kernel)) rfl
theorem q3_98 : (Cond.methodLink RX2 44 yX3_opens) ∈ lw_all := lw_in3 (List.mem_of_getElem? (i := 98) (by decide +kernel)) rfl
theorem q3_99 : (Cond.methodLink RX2 48 yX2_listNear) ∈ lw_all := lw_in3 (List.mem_of_getElem? (i := 99) (by decide +kernel)) rfl
theorem q3_101 : (Cond.instanceMethod yX2_listNear) ∈ lw_all := lw_in3 (List.mem_of_getElem? (i := 101) (by decide +kernel)) rfl
theorem q3_102 : (Cond.code yX2_listNear cX2_listNear 3 none) ∈ lw_all := lw_in3 (List.mem_of_getElem? (i := 102) (by decide +kernel)) rfl
theorem q3_103 : (Cond.methodLink RX2 88 yX2_list) ∈ lw_all := lw_in3 (List.mem_of_getElem? (i := 103) (by decide +kernel)) rfl
theorem q3_105 : (Cond.instanceMethod yX2_list) ∈ lw_all := lw_in3 (List.mem_of_getElem? (i := 105) (by decide +kernel)) rfl
theorem q3_106 : (Cond.code yX2_list cX2_list 3 none) ∈ lw_all := lw_in3 (List.mem_of_getElem? (i := 106) (by decide +kernel)) rfl
theorem q3_107 : (Cond.methodLink RX2 94 yX0_fingerprint) ∈ lw_all := lw_in3 (List.mem_of_getElem? (i := 107) (by decide +kernel)) rfl
theorem q3_108 : (Cond.instanceMethod yX0_fingerprint) ∈ lw_all := lw_in3 (List.mem_of_getElem? (i := 108) (by decide +kernel)) rfl
theorem q3_109 : (Cond.selects RX0 yX0_fingerprint yX0_fingerprint) ∈ lw_all := lw_in3 (List.mem_of_getElem? (i := 109) (by decide +kernel)) rfl
theorem q3_110 : (Cond.code yX0_fingerprint cX0_fingerprint 3 (some .int)) ∈ lw_all := lw_in3 (List.mem_of_getElem? (i := 110) (by decide +kernel)) rfl
theorem q3_111 : (Cond.methodLink RX2 52 yX3_allows) ∈ lw_all := lw_in3 (List.mem_of_getElem? (i := 111) (by decide +kernel)) rfl
theorem q3_112 : (Cond.methodLink RX2 63 yX0_copyFrom) ∈ lw_all := lw_in3 (List.mem_of_getElem? (i := 112) (by decide +kernel)) rfl
theorem q3_113 : (Cond.methodLink RX2 71 yX1_move) ∈ lw_all := lw_in3 (List.mem_of_getElem? (i := 113) (by decide +kernel)) rfl
theorem q3_114 : (Cond.methodLink RX2 91 yX2_listBehindOne) ∈ lw_all := lw_in3 (List.mem_of_getElem? (i := 114) (by decide +kernel)) rfl
theorem q3_116 : (Cond.instanceMethod yX2_listBehindOne) ∈ lw_all := lw_in3 (List.mem_of_getElem? (i := 116) (by decide +kernel)) rfl
theorem q3_117 : (Cond.code yX2_listBehindOne cX2_listBehindOne 3 none) ∈ lw_all := lw_in3 (List.mem_of_getElem? (i := 117) (by decide +kernel)) rfl
theorem q3_118 : (Cond.methodLink RX2 56 yX2_tryFirst) ∈ lw_all := lw_in3 (List.mem_of_getElem? (i := 118) (by decide +kernel)) rfl
theorem q3_120 : (Cond.instanceMethod yX2_tryFirst) ∈ lw_all := lw_in3 (List.mem_of_getElem? (i := 120) (by decide +kernel)) rfl
theorem q3_121 : (Cond.code yX2_tryFirst cX2_tryFirst 4 none) ∈ lw_all := lw_in3 (List.mem_of_getElem? (i := 121) (by decide +kernel)) rfl
theorem q3_122 : (Cond.methodLink RX2 77 yX2_listedTurns) ∈ lw_all := lw_in3 (List.mem_of_getElem? (i := 122) (by decide +kernel)) rfl
theorem q3_124 : (Cond.instanceMethod yX2_listedTurns) ∈ lw_all := lw_in3 (List.mem_of_getElem? (i := 124) (by decide +kernel)) rfl
theorem q3_125 : (Cond.code yX2_listedTurns cX2_listedTurns 4 (some .int)) ∈ lw_all := lw_in3 (List.mem_of_getElem? (i := 125) (by decide +kernel)) rfl
theorem q3_126 : (Cond.methodLink RX2 81 yX2_meetsList) ∈ lw_all := lw_in3 (List.mem_of_getElem? (i := 126) (by decide +kernel)) rfl
theorem q3_128 : (Cond.instanceMethod yX2_meetsList) ∈ lw_all := lw_in3 (List.mem_of_getElem? (i := 128) (by decide +kernel)) rfl
theorem q3_129 : (Cond.code yX2_meetsList cX2_meetsList 3 (some .boolean)) ∈ lw_all := lw_in3 (List.mem_of_getElem? (i := 129) (by decide +kernel)) rfl
theorem q3_130 : (Cond.methodLink RX5 280 yX5_closest) ∈ lw_all := lw_in3 (List.mem_of_getElem? (i := 130) (by decide +kernel)) rfl
theorem q3_131 : (Cond.methodLink RX5 283 yX5_openShare) ∈ lw_all := lw_in3 (List.mem_of_getElem? (i := 131) (by decide +kernel)) rfl
theorem q3_132 : (Cond.methodLink RX5 287 yX5_doubleBits) ∈ lw_all := lw_in3 (List.mem_of_getElem? (i := 132) (by decide +kernel)) rfl
theorem q3_133 : (Cond.static yX5_doubleBits) ∈ lw_all := lw_in3 (List.mem_of_getElem? (i := 133) (by decide +kernel)) rfl
theorem q3_134 : (Cond.code yX5_doubleBits cX5_doubleBits 7 (some .long)) ∈ lw_all := lw_in3 (List.mem_of_getElem? (i := 134) (by decide +kernel)) rfl
theorem q3_135 : ((Jvm.Cond.constantLong "PairedTumblers" (346 : Nat) (1023 : Int64))) ∈ lw_all := lw_in3 (List.mem_of_getElem? (i := 135) (by decide +kernel)) rfl
theorem q3_136 : ((Jvm.Cond.constantDouble "PairedTumblers" (348 : Nat) (4611686018427387904 : UInt64))) ∈ lw_all := lw_in3 (List.mem_of_getElem? (i := 136) (by decide +kernel)) rfl
theorem q3_137 : ((Jvm.Cond.constantDouble "PairedTumblers" (350 : Nat) (4841369599423283200 : UInt64))) ∈ lw_all := lw_in3 (List.mem_of_getElem? (i := 137) (by decide +kernel)) rfl
theorem q3_138 : (Cond.methodLink RX5 291 yX5_meanNotch) ∈ lw_all := lw_in3 (List.mem_of_getElem? (i := 138) (by decide +kernel)) rfl
theorem q3_139 : (Cond.methodLink RX5 295 yX5_floatBits) ∈ lw_all := lw_in3 (List.mem_of_getElem? (i := 139) (by decide +kernel)) rfl
theorem q3_140 : (Cond.static yX5_floatBits) ∈ lw_all := lw_in3 (List.mem_of_getElem? (i := 140) (by decide +kernel)) rfl
theorem q3_141 : (Cond.code yX5_floatBits cX5_floatBits 4 (some .int)) ∈ lw_all := lw_in3 (List.mem_of_getElem? (i := 141) (by decide +kernel)) rfl
theorem q3_142 : ((Jvm.Cond.constantFloat "PairedTumblers" (352 : Nat) (1258291200 : UInt32))) ∈ lw_all := lw_in3 (List.mem_of_getElem? (i := 142) (by decide +kernel)) rfl
theorem q3_143 : (Cond.methodLink RX5 299 yX5_mixBuffer) ∈ lw_all := lw_in3 (List.mem_of_getElem? (i := 143) (by decide +kernel)) rfl
theorem q3_145 : (Cond.instanceMethod yX5_mixBuffer) ∈ lw_all := lw_in3 (List.mem_of_getElem? (i := 145) (by decide +kernel)) rfl
theorem q3_146 : (Cond.code yX5_mixBuffer cX5_mixBuffer 6 (some .long)) ∈ lw_all := lw_in3 (List.mem_of_getElem? (i := 146) (by decide +kernel)) rfl
theorem q3_147 : (Cond.methodLink RX5 342 yX4_signAt) ∈ lw_all := lw_in3 (List.mem_of_getElem? (i := 147) (by decide +kernel)) rfl
theorem q3_148 : (Cond.methodLink RL 68 yL_turn) ∈ lw_all := lw_in3 (List.mem_of_getElem? (i := 148) (by decide +kernel)) rfl
theorem q3_149 : (Cond.static yL_turn) ∈ lw_all := lw_in3 (List.mem_of_getElem? (i := 149) (by decide +kernel)) rfl
theorem q3_150 : ((Jvm.Cond.codeWith ({ cls := "PairedTumblersLaw", name := "turn", desc := "(LPairedTumblers;I[J)I" } : Jvm.MethodName) method_3_code (4 : Nat) (Option.some Jvm.ClassFile.FieldType.int) [((0 : Nat), (9 : Nat), (12 : Nat), (13 : Nat)), ((0 : Nat), (9 : Nat), (15 : Nat), (15 : Nat))])) ∈ lw_all := lw_in3 (List.mem_of_getElem? (i := 150) (by decide +kernel)) rfl
theorem q3_151 : (Cond.classLink RL 13 "java/lang/IndexOutOfBoundsException") ∈ lw_all := lw_in3 (List.mem_of_getElem? (i := 151) (by decide +kernel)) rfl
theorem q3_152 : (Cond.classLink RL 15 "java/lang/IllegalStateException") ∈ lw_all := lw_in3 (List.mem_of_getElem? (i := 152) (by decide +kernel)) rfl
theorem q3_153 : (Cond.methodLink RL 7 yX5_turn) ∈ lw_all := lw_in3 (List.mem_of_getElem? (i := 153) (by decide +kernel)) rfl
theorem q3_154 : (Cond.instanceMethod yX5_turn) ∈ lw_all := lw_in3 (List.mem_of_getElem? (i := 154) (by decide +kernel)) rfl
theorem q3_155 : (Cond.selects RX5 yX5_turn yX5_turn) ∈ lw_all := lw_in3 (List.mem_of_getElem? (i := 155) (by decide +kernel)) rfl
theorem q3_156 : (Cond.code yX5_turn cX5_turn 2 (some .int)) ∈ lw_all := lw_in3 (List.mem_of_getElem? (i := 156) (by decide +kernel)) rfl
theorem q3_157 : (Cond.methodLink RX5 55 yX5_turnOnce) ∈ lw_all := lw_in3 (List.mem_of_getElem? (i := 157) (by decide +kernel)) rfl
theorem q3_159 : (Cond.instanceMethod yX5_turnOnce) ∈ lw_all := lw_in3 (List.mem_of_getElem? (i := 159) (by decide +kernel)) rfl
theorem q3_160 : (Cond.code yX5_turnOnce cX5_turnOnce 4 (some .int)) ∈ lw_all := lw_in3 (List.mem_of_getElem? (i := 160) (by decide +kernel)) rfl
theorem q3_161 : (Cond.classLink RX5 76 "java/lang/IllegalStateException") ∈ lw_all := lw_in3 (List.mem_of_getElem? (i := 161) (by decide +kernel)) rfl
theorem q3_162 : (Cond.instantiable "java/lang/IllegalStateException" 6) ∈ lw_all := lw_in3 (List.mem_of_getElem? (i := 162) (by decide +kernel)) rfl
theorem qn3_163 : ((Jvm.Cond.castable "java/lang/IllegalStateException" "java/lang/IllegalStateException")) ∈ lw_nw := lw_nin3 (List.mem_of_getElem? (i := 163) (by decide +kernel)) rfl
theorem q3_164 : (Cond.selects "java/lang/IllegalStateException" ⟨"java/lang/Throwable", "fillInStackTrace", "(I)Ljava/lang/Throwable;"⟩ ⟨"java/lang/Throwable", "fillInStackTrace", "(I)Ljava/lang/Throwable;"⟩) ∈ lw_all := lw_in3 (List.mem_of_getElem? (i := 164) (by decide +kernel)) rfl
theorem q3_165 : ((Jvm.Cond.lays "java/lang/IllegalStateException" "java/lang/Throwable" "cause" "Ljava/lang/Throwable;")) ∈ lw_all := lw_in3 (List.mem_of_getElem? (i := 165) (by decide +kernel)) rfl
theorem q3_166 : ((Jvm.Cond.lays "java/lang/IllegalStateException" "java/lang/Throwable" "stackTrace" "[Ljava/lang/StackTraceElement;")) ∈ lw_all := lw_in3 (List.mem_of_getElem? (i := 166) (by decide +kernel)) rfl
theorem q3_167 : ((Jvm.Cond.lays "java/lang/IllegalStateException" "java/lang/Throwable" "suppressedExceptions" "Ljava/util/List;")) ∈ lw_all := lw_in3 (List.mem_of_getElem? (i := 167) (by decide +kernel)) rfl
theorem q3_168 : ((Jvm.Cond.lays "java/lang/IllegalStateException" "java/lang/Throwable" "detailMessage" "Ljava/lang/String;")) ∈ lw_all := lw_in3 (List.mem_of_getElem? (i := 168) (by decide +kernel)) rfl
theorem q3_169 : ((Jvm.Cond.lays "java/lang/IllegalStateException" "java/lang/Throwable" "backtrace" "Ljava/lang/Object;")) ∈ lw_all := lw_in3 (List.mem_of_getElem? (i := 169) (by decide +kernel)) rfl
theorem q3_171 : (Cond.methodLink RX5 80 ⟨"java/lang/IllegalStateException", "<init>", "(Ljava/lang/String;)V"⟩) ∈ lw_all := lw_in3 (List.mem_of_getElem? (i := 171) (by decide +kernel)) rfl
theorem q3_172 : (Cond.instanceMethod ⟨"java/lang/IllegalStateException", "<init>", "(Ljava/lang/String;)V"⟩) ∈ lw_all := lw_in3 (List.mem_of_getElem? (i := 172) (by decide +kernel)) rfl
theorem q3_173 : ((Jvm.Cond.code ({ cls := "java/lang/IllegalStateException", name := "<init>", desc := "(Ljava/lang/String;)V" } : Jvm.MethodName) prog_13_method_2_code (2 : Nat) (Option.none : Option Jvm.ClassFile.FieldType))) ∈ lw_all := lw_in3 (List.mem_of_getElem? (i := 173) (by decide +kernel)) rfl
theorem q3_174 : (Cond.methodLink "java/lang/IllegalStateException" 7 ⟨"java/lang/RuntimeException", "<init>", "(Ljava/lang/String;)V"⟩) ∈ lw_all := lw_in3 (List.mem_of_getElem? (i := 174) (by decide +kernel)) rfl
theorem q3_175 : ((Jvm.Cond.lays "java/lang/IllegalStateException" "java/lang/Throwable" "depth" "I")) ∈ lw_all := lw_in3 (List.mem_of_getElem? (i := 175) (by decide +kernel)) rfl
theorem q3_176 : ((Jvm.Cond.superclass "java/lang/IllegalStateException" "java/lang/RuntimeException")) ∈ lw_all := lw_in3 (List.mem_of_getElem? (i := 176) (by decide +kernel)) rfl
theorem q3_177 : (Cond.methodLink RX5 92 yX3_doMove) ∈ lw_all := lw_in3 (List.mem_of_getElem? (i := 177) (by decide +kernel)) rfl
theorem q3_178 : (Cond.instanceMethod yX3_doMove) ∈ lw_all := lw_in3 (List.mem_of_getElem? (i := 178) (by decide +kernel)) rfl
theorem q3_179 : (Cond.selects RX3 yX3_doMove yX3_doMove) ∈ lw_all := lw_in3 (List.mem_of_getElem? (i := 179) (by decide +kernel)) rfl
theorem q3_180 : (Cond.code yX3_doMove cX3_doMove 4 none) ∈ lw_all := lw_in3 (List.mem_of_getElem? (i := 180) (by decide +kernel)) rfl
theorem q3_181 : (Cond.methodLink RX3 74 yX3_opens) ∈ lw_all := lw_in3 (List.mem_of_getElem? (i := 181) (by decide +kernel)) rfl
theorem q3_182 : (Cond.methodLink RX3 78 yX1_move) ∈ lw_all := lw_in3 (List.mem_of_getElem? (i := 182) (by decide +kernel)) rfl
theorem q3_183 : (Cond.methodLink RX3 82 yX1_notchesBy) ∈ lw_all := lw_in3 (List.mem_of_getElem? (i := 183) (by decide +kernel)) rfl
theorem q3_184 : (Cond.instanceMethod yX1_notchesBy) ∈ lw_all := lw_in3 (List.mem_of_getElem? (i := 184) (by decide +kernel)) rfl
theorem q3_185 : (Cond.selects RX1 yX1_notchesBy yX1_notchesBy) ∈ lw_all := lw_in3 (List.mem_of_getElem? (i := 185) (by decide +kernel)) rfl
theorem q3_186 : (Cond.code yX1_notchesBy cX1_notchesBy 4 (some .int)) ∈ lw_all := lw_in3 (List.mem_of_getElem? (i := 186) (by decide +kernel)) rfl
theorem q3_187 : (Cond.methodLink RX1 38 yJ6_bitCount_0f7a4) ∈ lw_all := lw_in3 (List.mem_of_getElem? (i := 187) (by decide +kernel)) rfl
theorem q3_188 : (Cond.methodLink RX3 85 yJ9_floorMod_7cf53) ∈ lw_all := lw_in3 (List.mem_of_getElem? (i := 188) (by decide +kernel)) rfl
theorem q3_189 : (Cond.static yJ9_floorMod_7cf53) ∈ lw_all := lw_in3 (List.mem_of_getElem? (i := 189) (by decide +kernel)) rfl
theorem q3_190 : (Cond.code yJ9_floorMod_7cf53 cJ9_floorMod_7cf53 3 (some .int)) ∈ lw_all := lw_in3 (List.mem_of_getElem? (i := 190) (by decide +kernel)) rfl
theorem q3_191 : (Cond.methodLink RL 77 yL_back) ∈ lw_all := lw_in3 (List.mem_of_getElem? (i := 191) (by decide +kernel)) rfl
theorem q3_192 : (Cond.static yL_back) ∈ lw_all := lw_in3 (List.mem_of_getElem? (i := 192) (by decide +kernel)) rfl
theorem q3_193 : ((Jvm.Cond.codeWith ({ cls := "PairedTumblersLaw", name := "back", desc := "(LPairedTumblers;I[J)I" } : Jvm.MethodName) method_4_code (4 : Nat) (Option.some Jvm.ClassFile.FieldType.int) [((0 : Nat), (9 : Nat), (12 : Nat), (13 : Nat)), ((0 : Nat), (9 : Nat), (15 : Nat), (15 : Nat))])) ∈ lw_all := lw_in3 (List.mem_of_getElem? (i := 193) (by decide +kernel)) rfl
theorem q3_194 : (Cond.methodLink RL 17 yX5_back) ∈ lw_all := lw_in3 (List.mem_of_getElem? (i := 194) (by decide +kernel)) rfl
theorem q3_195 : (Cond.instanceMethod yX5_back) ∈ lw_all := lw_in3 (List.mem_of_getElem? (i := 195) (by decide +kernel)) rfl
theorem q3_196 : (Cond.selects RX5 yX5_back yX5_back) ∈ lw_all := lw_in3 (List.mem_of_getElem? (i := 196) (by decide +kernel)) rfl
theorem q3_197 : (Cond.code yX5_back cX5_back 2 (some .int)) ∈ lw_all := lw_in3 (List.mem_of_getElem? (i := 197) (by decide +kernel)) rfl
theorem q3_198 : (Cond.methodLink RL 80 yL_word) ∈ lw_all := lw_in3 (List.mem_of_getElem? (i := 198) (by decide +kernel)) rfl
theorem q3_199 : (Cond.static yL_word) ∈ lw_all := lw_in3 (List.mem_of_getElem? (i := 199) (by decide +kernel)) rfl
theorem q3_200 : ((Jvm.Cond.codeWith ({ cls := "PairedTumblersLaw", name := "word", desc := "(LPairedTumblers;[J)I" } : Jvm.MethodName) method_5_code (3 : Nat) (Option.some Jvm.ClassFile.FieldType.int) [((0 : Nat), (8 : Nat), (11 : Nat), (24 : Nat)), ((0 : Nat), (8 : Nat), (14 : Nat), (15 : Nat))])) ∈ lw_all := lw_in3 (List.mem_of_getElem? (i := 200) (by decide +kernel)) rfl
theorem q3_201 : (Cond.classLink RL 24 "java/lang/IllegalArgumentException") ∈ lw_all := lw_in3 (List.mem_of_getElem? (i := 201) (by decide +kernel)) rfl
theorem q3_202 : (Cond.methodLink RL 20 yX5_word) ∈ lw_all := lw_in3 (List.mem_of_getElem? (i := 202) (by decide +kernel)) rfl
theorem q3_203 : (Cond.instanceMethod yX5_word) ∈ lw_all := lw_in3 (List.mem_of_getElem? (i := 203) (by decide +kernel)) rfl
theorem q3_204 : (Cond.selects RX5 yX5_word yX5_word) ∈ lw_all := lw_in3 (List.mem_of_getElem? (i := 204) (by decide +kernel)) rfl
theorem q3_205 : (Cond.code yX5_word cX5_word 2 (some .int)) ∈ lw_all := lw_in3 (List.mem_of_getElem? (i := 205) (by decide +kernel)) rfl
theorem q3_208 : (Cond.methodLink RX5 84 yX4_moveAt) ∈ lw_all := lw_in3 (List.mem_of_getElem? (i := 208) (by decide +kernel)) rfl
theorem q3_209 : (Cond.methodLink RL 88 yL_cut) ∈ lw_all := lw_in3 (List.mem_of_getElem? (i := 209) (by decide +kernel)) rfl
theorem q3_210 : (Cond.static yL_cut) ∈ lw_all := lw_in3 (List.mem_of_getElem? (i := 210) (by decide +kernel)) rfl
theorem q3_211 : ((Jvm.Cond.codeWith ({ cls := "PairedTumblersLaw", name := "cut", desc := "(LPairedTumblers;III[J)I" } : Jvm.MethodName) method_6_code (6 : Nat) (Option.some Jvm.ClassFile.FieldType.int) [((0 : Nat), (12 : Nat), (15 : Nat), (13 : Nat)), ((0 : Nat), (12 : Nat), (19 : Nat), (24 : Nat))])) ∈ lw_all := lw_in3 (List.mem_of_getElem? (i := 211) (by decide +kernel)) rfl
theorem q3_212 : (Cond.methodLink RL 26 yX5_cut) ∈ lw_all := lw_in3 (List.mem_of_getElem? (i := 212) (by decide +kernel)) rfl
theorem q3_213 : (Cond.instanceMethod yX5_cut) ∈ lw_all := lw_in3 (List.mem_of_getElem? (i := 213) (by decide +kernel)) rfl
theorem q3_214 : (Cond.selects RX5 yX5_cut yX5_cut) ∈ lw_all := lw_in3 (List.mem_of_getElem? (i := 214) (by decide +kernel)) rfl
theorem q3_215 : (Cond.code yX5_cut cX5_cut 5 (some .int)) ∈ lw_all := lw_in3 (List.mem_of_getElem? (i := 215) (by decide +kernel)) rfl
theorem q3_216 : (Cond.methodLink RX5 119 yX5_isKeyMask) ∈ lw_all := lw_in3 (List.mem_of_getElem? (i := 216) (by decide +kernel)) rfl
theorem q3_217 : (Cond.static yX5_isKeyMask) ∈ lw_all := lw_in3 (List.mem_of_getElem? (i := 217) (by decide +kernel)) rfl
theorem q3_218 : (Cond.code yX5_isKeyMask cX5_isKeyMask 1 (some .boolean)) ∈ lw_all := lw_in3 (List.mem_of_getElem? (i := 218) (by decide +kernel)) rfl
theorem q3_220 : (Cond.methodLink RX5 133 yX1_shape) ∈ lw_all := lw_in3 (List.mem_of_getElem? (i := 220) (by decide +kernel)) rfl
theorem q3_221 : (Cond.instanceMethod yX1_shape) ∈ lw_all := lw_in3 (List.mem_of_getElem? (i := 221) (by decide +kernel)) rfl
theorem q3_222 : (Cond.selects RX1 yX1_shape yX1_shape) ∈ lw_all := lw_in3 (List.mem_of_getElem? (i := 222) (by decide +kernel)) rfl
theorem q3_223 : (Cond.code yX1_shape cX1_shape 4 none) ∈ lw_all := lw_in3 (List.mem_of_getElem? (i := 223) (by decide +kernel)) rfl
theorem q3_224 : (Cond.methodLink RL 92 yL_stick) ∈ lw_all := lw_in3 (List.mem_of_getElem? (i := 224) (by decide +kernel)) rfl
theorem q3_225 : (Cond.static yL_stick) ∈ lw_all := lw_in3 (List.mem_of_getElem? (i := 225) (by decide +kernel)) rfl
theorem q3_226 : ((Jvm.Cond.codeWith ({ cls := "PairedTumblersLaw", name := "stick", desc := "(LPairedTumblers;I[J)I" } : Jvm.MethodName) method_7_code (4 : Nat) (Option.some Jvm.ClassFile.FieldType.int) [((0 : Nat), (9 : Nat), (12 : Nat), (13 : Nat))])) ∈ lw_all := lw_in3 (List.mem_of_getElem? (i := 226) (by decide +kernel)) rfl
theorem q3_227 : (Cond.methodLink RL 30 yX5_stick) ∈ lw_all := lw_in3 (List.mem_of_getElem? (i := 227) (by decide +kernel)) rfl
theorem q3_228 : (Cond.instanceMethod yX5_stick) ∈ lw_all := lw_in3 (List.mem_of_getElem? (i := 228) (by decide +kernel)) rfl
theorem q3_229 : (Cond.selects RX5 yX5_stick yX5_stick) ∈ lw_all := lw_in3 (List.mem_of_getElem? (i := 229) (by decide +kernel)) rfl
theorem q3_230 : (Cond.code yX5_stick cX5_stick 2 (some .int)) ∈ lw_all := lw_in3 (List.mem_of_getElem? (i := 230) (by decide +kernel)) rfl
theorem q3_231 : (Cond.methodLink RL 99 yL_append) ∈ lw_all := lw_in3 (List.mem_of_getElem? (i := 231) (by decide +kernel)) rfl
theorem q3_232 : (Cond.static yL_append) ∈ lw_all := lw_in3 (List.mem_of_getElem? (i := 232) (by decide +kernel)) rfl
theorem q3_233 : ((Jvm.Cond.codeWith ({ cls := "PairedTumblersLaw", name := "append", desc := "(LPairedTumblers;I[J)I" } : Jvm.MethodName) method_8_code (4 : Nat) (Option.some Jvm.ClassFile.FieldType.int) [((0 : Nat), (9 : Nat), (12 : Nat), (24 : Nat)), ((0 : Nat), (9 : Nat), (15 : Nat), (15 : Nat))])) ∈ lw_all := lw_in3 (List.mem_of_getElem? (i := 233) (by decide +kernel)) rfl
theorem q3_234 : (Cond.methodLink RL 33 yX5_append) ∈ lw_all := lw_in3 (List.mem_of_getElem? (i := 234) (by decide +kernel)) rfl
theorem q3_235 : (Cond.instanceMethod yX5_append) ∈ lw_all := lw_in3 (List.mem_of_getElem? (i := 235) (by decide +kernel)) rfl
theorem q3_236 : (Cond.selects RX5 yX5_append yX5_append) ∈ lw_all := lw_in3 (List.mem_of_getElem? (i := 236) (by decide +kernel)) rfl
theorem q3_237 : (Cond.code yX5_append cX5_append 2 (some .int)) ∈ lw_all := lw_in3 (List.mem_of_getElem? (i := 237) (by decide +kernel)) rfl
theorem q4_0 : (Cond.methodLink RX5 163 yX4_addSign) ∈ lw_all := lw_in4 (List.mem_of_getElem? (i := 0) (by decide +kernel)) rfl
theorem q4_1 : (Cond.instanceMethod yX4_addSign) ∈ lw_all := lw_in4 (List.mem_of_getElem? (i := 1) (by decide +kernel)) rfl
theorem q4_2 : (Cond.selects RX4 yX4_addSign yX4_addSign) ∈ lw_all := lw_in4 (List.mem_of_getElem? (i := 2) (by decide +kernel)) rfl
theorem q4_3 : (Cond.code yX4_addSign cX4_addSign 2 none) ∈ lw_all := lw_in4 (List.mem_of_getElem? (i := 3) (by decide +kernel)) rfl
theorem q4_4 : (Cond.methodLink RL 114 yL_goBack) ∈ lw_all := lw_in4 (List.mem_of_getElem? (i := 4) (by decide +kernel)) rfl
theorem q4_5 : (Cond.static yL_goBack) ∈ lw_all := lw_in4 (List.mem_of_getElem? (i := 5) (by decide +kernel)) rfl
theorem q4_6 : ((Jvm.Cond.codeWith ({ cls := "PairedTumblersLaw", name := "goBack", desc := "(LPairedTumblers;[J)I" } : Jvm.MethodName) method_9_code (3 : Nat) (Option.some Jvm.ClassFile.FieldType.int) [((0 : Nat), (8 : Nat), (11 : Nat), (15 : Nat))])) ∈ lw_all := lw_in4 (List.mem_of_getElem? (i := 6) (by decide +kernel)) rfl
theorem q4_7 : (Cond.methodLink RL 36 yX5_goBack) ∈ lw_all := lw_in4 (List.mem_of_getElem? (i := 7) (by decide +kernel)) rfl
theorem q4_8 : (Cond.instanceMethod yX5_goBack) ∈ lw_all := lw_in4 (List.mem_of_getElem? (i := 8) (by decide +kernel)) rfl
theorem q4_9 : (Cond.selects RX5 yX5_goBack yX5_goBack) ∈ lw_all := lw_in4 (List.mem_of_getElem? (i := 9) (by decide +kernel)) rfl
