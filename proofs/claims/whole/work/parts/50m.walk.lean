section
variable {p : Program} {l : Launch} {e : Env} {s : State} {m : MethodId} {args : Array Value} {below : List Frame} {meth : Method} {c : Code} {D : va_G} {cs : wC4} {ad : Nat → Nat} {b : Nat} {G : wG}
abbrev rm_X6_countTurns : Room := { frames := 0, cells := 0, slots := 0, locals := 0 }
theorem hd_X6_countTurns : yX6_countTurns.cls = RX6 ∧ yX6_countTurns.cls ≠ "java/lang/invoke/MethodHandle" ∧ yX6_countTurns.cls ≠ "java/lang/invoke/VarHandle" ∧ (parseMethodDescriptor yX6_countTurns.desc).map (fun d => d.parameters.length) = some 0 := by decide +kernel
set_option maxRecDepth 100000 in
set_option maxHeartbeats 4000000 in
theorem s_X6_countTurns_206 {Q : Int32 → wI → Prop} (C0 : wCx p m c s args meth cX6_countTurns 4 RX6 (some .int) D cs ad b) : ∀ (t0 : Int32) (I : wI) (H : Heap) (locs : List Loc) (ls : Array Slot), v_X6_countTurns_206 Q t0 I → wH D cs b G I s H locs → lv_has ls 4 [] → W p l e rm_X6_countTurns s m args below meth c H locs 0 0 (MQ below (va_Qi (Q) (wPo D cs b G) (fun q => b ≤ q)) args s 0 0 (fun q => b ≤ q)) (F0 m 206 ls [.int t0]) := by
  obtain ⟨hX, hr, hlk, hK, hE⟩ := id C0
  have hx := hX.1
  have hb := hX.2.1
  have hown := hX.2.2.2.1
  have hts := hX.2.2.2.2
  intro t0 I H locs ls hq hH hl
  unfold v_X6_countTurns_206 at hq
  exact w_eI hX hr hlk hH hq dX6_countTurns_206
set_option maxRecDepth 100000 in
set_option maxHeartbeats 4000000 in
theorem s_X6_countTurns_186 {Q : Int32 → wI → Prop} {K9 : Int32 → Int32 → wI → Prop} (C0 : wCx p m c s args meth cX6_countTurns 4 RX6 (some .int) D cs ad b) (hK9 : ∀ (v1 : Int32) (v2 : Int32) (I : wI) (H : Heap) (locs : List Loc) (ls : Array Slot), K9 v1 v2 I → wH D cs b G I s H locs → lv_has ls 4 [(0, .ref (b + 111)), (1, .int v1), (2, .int v2)] → W p l e rm_X6_countTurns s m args below meth c H locs 0 0 (MQ below (va_Qi (Q) (wPo D cs b G) (fun q => b ≤ q)) args s 0 0 (fun q => b ≤ q)) (F0 m 9 ls [])) : ∀ (v1 : Int32) (v2 : Int32) (I : wI) (H : Heap) (locs : List Loc) (ls : Array Slot), v_X6_countTurns_186 Q K9 v1 v2 I → wH D cs b G I s H locs → lv_has ls 4 [(0, .ref (b + 111)), (1, .int v1), (2, .int v2)] → W p l e rm_X6_countTurns s m args below meth c H locs 0 0 (MQ below (va_Qi (Q) (wPo D cs b G) (fun q => b ≤ q)) args s 0 0 (fun q => b ≤ q)) (F0 m 186 ls []) := by
  obtain ⟨hX, hr, hlk, hK, hE⟩ := id C0
  have hx := hX.1
  have hb := hX.2.1
  have hown := hX.2.2.2.1
  have hts := hX.2.2.2.2
  intro v1 v2 I H locs ls hq hH hl
  unfold v_X6_countTurns_186 at hq
  refine lv_iinc (v := (v2 + (1 : Int32))) (lv' := [(2, .int (v2 + (1 : Int32))), (0, .ref (b + 111)), (1, .int v1)]) hx hb dX6_countTurns_186 hl (k := 2) rfl rfl (by decide) rfl (fun ls hl => ?_)
  refine lv_goto (tgt := 9) hx hb dX6_countTurns_189 (by decide) ?_
  exact hK9 v1 (v2 + (1 : Int32)) _ _ _ _ hq hH (lv_sub hl [1, 2, 0] rfl)
set_option maxRecDepth 100000 in
set_option maxHeartbeats 4000000 in
theorem s_X6_countTurns_36 {Q : Int32 → wI → Prop} {K9 : Int32 → Int32 → wI → Prop} (C0 : wCx p m c s args meth cX6_countTurns 4 RX6 (some .int) D cs ad b) (hK9 : ∀ (v1 : Int32) (v2 : Int32) (I : wI) (H : Heap) (locs : List Loc) (ls : Array Slot), K9 v1 v2 I → wH D cs b G I s H locs → lv_has ls 4 [(0, .ref (b + 111)), (1, .int v1), (2, .int v2)] → W p l e rm_X6_countTurns s m args below meth c H locs 0 0 (MQ below (va_Qi (Q) (wPo D cs b G) (fun q => b ≤ q)) args s 0 0 (fun q => b ≤ q)) (F0 m 9 ls [])) : ∀ (v1 : Int32) (v2 : Int32) (I : wI) (H : Heap) (locs : List Loc) (ls : Array Slot), v_X6_countTurns_36 Q K9 v1 v2 I → wH D cs b G I s H locs → lv_has ls 4 [(0, .ref (b + 111)), (1, .int v1), (2, .int v2)] → W p l e rm_X6_countTurns s m args below meth c H locs 0 0 (MQ below (va_Qi (Q) (wPo D cs b G) (fun q => b ≤ q)) args s 0 0 (fun q => b ≤ q)) (F0 m 36 ls []) := by
  obtain ⟨hX, hr, hlk, hK, hE⟩ := id C0
  have hx := hX.1
  have hb := hX.2.1
  have hown := hX.2.2.2.1
  have hts := hX.2.2.2.2
  intro v1 v2 I H locs ls hq hH hl
  unfold v_X6_countTurns_36 at hq
  refine lv_aload_n hx hb dX6_countTurns_36 rfl (lv_at hl 0 rfl) ?_
  refine w_getr hX hK hH ck6 sh111 16 11 122 fr6_16 rfl q4_89 dX6_countTurns_37 ?_
  refine lv_aload_n hx hb dX6_countTurns_40 rfl (lv_at hl 0 rfl) ?_
  refine w_geti hX hK hH ck6 sh111 18 fi6_18 q4_91 dX6_countTurns_41 ?_
  refine lv_iload_n hx hb dX6_countTurns_44 rfl (lv_at hl 1 rfl) ?_
  obtain ⟨hc, hq⟩ := hq
  refine w_iast hX hK hH (sf6_16 sh111) hc dX6_countTurns_45 (fun I1 H locs hI hH => ?_)
  have hq := hq I1 hI
  refine lv_aload_n hx hb dX6_countTurns_46 rfl (lv_at hl 0 rfl) ?_
  refine w_getr hX hK hH ck6 sh111 17 12 123 fr6_17 rfl q4_90 dX6_countTurns_47 ?_
  refine lv_aload_n hx hb dX6_countTurns_50 rfl (lv_at hl 0 rfl) ?_
  refine w_geti hX hK hH ck6 sh111 18 fi6_18 q4_91 dX6_countTurns_51 ?_
  refine lv_iconst (v := 0) hx hb dX6_countTurns_54 (by decide) ?_
  obtain ⟨hc, hq⟩ := hq
  refine w_iast hX hK hH (sf6_17 sh111) hc dX6_countTurns_55 (fun I2 H locs hI hH => ?_)
  have hq := hq I2 hI
  refine lv_aload_n hx hb dX6_countTurns_56 rfl (lv_at hl 0 rfl) ?_
  refine lv_dup hx hb dX6_countTurns_57 rfl ?_
  refine w_geti hX hK hH ck6 sh111 18 fi6_18 q4_91 dX6_countTurns_58 ?_
  refine lv_iconst (v := 1) hx hb dX6_countTurns_61 (by decide) ?_
  refine lv_iadd hx hb dX6_countTurns_62 ?_
  refine w_puti hX hK hH ck6 sh111 18 fw6_18 q4_91 dX6_countTurns_63 (fun I3 H locs hI hH => ?_)
  have hq := hq I3 hI
  refine lv_iconst (v := 0) hx hb dX6_countTurns_66 (by decide) ?_
  refine lv_istore_n (lv' := [(1, .int (0 : Int32)), (0, .ref (b + 111)), (2, .int v2)]) hx hb dX6_countTurns_67 rfl hl (by decide) rfl (fun ls hl => ?_)
  refine lv_goto (tgt := 186) hx hb dX6_countTurns_68 (by decide) ?_
  exact s_X6_countTurns_186  C0 hK9 (0 : Int32) v2 _ _ _ _ hq hH (lv_sub hl [1, 0, 2] rfl)
set_option maxRecDepth 100000 in
set_option maxHeartbeats 4000000 in
theorem s_X6_countTurns_9 {Q : Int32 → wI → Prop} (C0 : wCx p m c s args meth cX6_countTurns 4 RX6 (some .int) D cs ad b) : ∀ (f : Nat) (v1 : Int32) (v2 : Int32) (I : wI) (H : Heap) (locs : List Loc) (ls : Array Slot), v_X6_countTurns_9 Q f v1 v2 I → wH D cs b G I s H locs → lv_has ls 4 [(0, .ref (b + 111)), (1, .int v1), (2, .int v2)] → W p l e rm_X6_countTurns s m args below meth c H locs 0 0 (MQ below (va_Qi (Q) (wPo D cs b G) (fun q => b ≤ q)) args s 0 0 (fun q => b ≤ q)) (F0 m 9 ls []) := by
  obtain ⟨hX, hr, hlk, hK, hE⟩ := id C0
  have hx := hX.1
  have hb := hX.2.1
  have hown := hX.2.2.2.1
  have hts := hX.2.2.2.2
  intro f
  induction f with
  | zero =>
    intro v1 v2 I H locs ls hq
    exact hq.elim
  | succ f hK9 =>
    intro v1 v2 I H locs ls hq hH hl
    have hq : g_X6_countTurns_9 Q (v_X6_countTurns_9 Q f) v1 v2 I := hq
    unfold g_X6_countTurns_9 at hq
    refine lv_iload_n hx hb dX6_countTurns_9 rfl (lv_at hl 2 rfl) ?_
    refine lv_aload_n hx hb dX6_countTurns_10 rfl (lv_at hl 0 rfl) ?_
    refine w_geti hX hK hH ck6 sh111 8 fi6_8 q4_81 dX6_countTurns_11 ?_
    refine lv_icmp_ge (tgt := 192) hx hb dX6_countTurns_14 (by decide) (fun hc => ?_) (fun hc => ?_)
    · have hq := hq.1 hc
      refine lv_iload_n hx hb dX6_countTurns_192 rfl (lv_at hl 1 rfl) ?_
      refine lv_sipush (v := 9999) hx hb dX6_countTurns_193 (by decide) ?_
      refine lv_icmp_le (tgt := 205) hx hb dX6_countTurns_196 (by decide) (fun hc => ?_) (fun hc => ?_)
      · have hq := hq.1 hc
        refine lv_iload_n hx hb dX6_countTurns_205 rfl (lv_at hl 1 rfl) ?_
        exact s_X6_countTurns_206  C0  v1 _ _ _ _ hq hH (lv_sub hl [] rfl)
      · have hq := hq.2 hc
        refine lv_sipush (v := 9999) hx hb dX6_countTurns_199 (by decide) ?_
        refine lv_goto (tgt := 206) hx hb dX6_countTurns_202 (by decide) ?_
        exact s_X6_countTurns_206  C0  (9999 : Int32) _ _ _ _ hq hH (lv_sub hl [] rfl)
    · have hq := hq.2 hc
      refine lv_aload_n hx hb dX6_countTurns_17 rfl (lv_at hl 0 rfl) ?_
      refine w_getr hX hK hH ck6 sh111 7 5 116 fr6_7 rfl q4_80 dX6_countTurns_18 ?_
      refine lv_iload_n hx hb dX6_countTurns_21 rfl (lv_at hl 2 rfl) ?_
      obtain ⟨hc, hq⟩ := hq
      refine w_iald hX hK hH (sf6_7 sh111) hc dX6_countTurns_22 ?_
      refine lv_istore_n (lv' := [(3, .int (I 116 (v2).toNatClampNeg)), (0, .ref (b + 111)), (1, .int v1), (2, .int v2)]) hx hb dX6_countTurns_23 rfl hl (by decide) rfl (fun ls hl => ?_)
      refine lv_iload_n hx hb dX6_countTurns_24 rfl (lv_at hl 0 rfl) ?_
      refine lv_bipush (v := 40) hx hb dX6_countTurns_25 (by decide) ?_
      refine lv_icmp_eq (tgt := 36) hx hb dX6_countTurns_27 (by decide) (fun hc => ?_) (fun hc => ?_)
      · have hq := hq.1 hc
        exact s_X6_countTurns_36  C0 hK9 v1 v2 _ _ _ _ hq hH (lv_sub hl [1, 2, 3] rfl)
      · have hq := hq.2 hc
        refine lv_iload_n hx hb dX6_countTurns_30 rfl (lv_at hl 0 rfl) ?_
        refine lv_bipush (v := 91) hx hb dX6_countTurns_31 (by decide) ?_
        refine lv_icmp_ne (tgt := 71) hx hb dX6_countTurns_33 (by decide) (fun hc => ?_) (fun hc => ?_)
        · have hq := hq.1 hc
          refine lv_iload_n hx hb dX6_countTurns_71 rfl (lv_at hl 0 rfl) ?_
          refine lv_bipush (v := 41) hx hb dX6_countTurns_72 (by decide) ?_
          refine lv_icmp_ne (tgt := 117) hx hb dX6_countTurns_74 (by decide) (fun hc => ?_) (fun hc => ?_)
          · have hq := hq.1 hc
            refine lv_iload_n hx hb dX6_countTurns_117 rfl (lv_at hl 0 rfl) ?_
            refine lv_bipush (v := 44) hx hb dX6_countTurns_118 (by decide) ?_
            refine lv_icmp_ne (tgt := 140) hx hb dX6_countTurns_120 (by decide) (fun hc => ?_) (fun hc => ?_)
            · have hq := hq.1 hc
              refine lv_iload_n hx hb dX6_countTurns_140 rfl (lv_at hl 0 rfl) ?_
              refine lv_bipush (v := 93) hx hb dX6_countTurns_141 (by decide) ?_
              refine lv_icmp_ne (tgt := 183) hx hb dX6_countTurns_143 (by decide) (fun hc => ?_) (fun hc => ?_)
              · have hq := hq.1 hc
                refine lv_iinc (v := (v1 + (1 : Int32))) (lv' := [(1, .int (v1 + (1 : Int32))), (3, .int (I 116 (v2).toNatClampNeg)), (0, .ref (b + 111)), (2, .int v2)]) hx hb dX6_countTurns_183 hl (k := 2) rfl rfl (by decide) rfl (fun ls hl => ?_)
                exact s_X6_countTurns_186  C0 hK9 (v1 + (1 : Int32)) v2 _ _ _ _ hq hH (lv_sub hl [2, 0, 3] rfl)
              · have hq := hq.2 hc
                refine lv_aload_n hx hb dX6_countTurns_146 rfl (lv_at hl 1 rfl) ?_
                refine lv_dup hx hb dX6_countTurns_147 rfl ?_
                refine w_geti hX hK hH ck6 sh111 18 fi6_18 q4_91 dX6_countTurns_148 ?_
                refine lv_iconst (v := 1) hx hb dX6_countTurns_151 (by decide) ?_
                refine lv_isub hx hb dX6_countTurns_152 ?_
                refine w_puti hX hK hH ck6 sh111 18 fw6_18 q4_91 dX6_countTurns_153 (fun I1 H locs hI hH => ?_)
                have hq := hq I1 hI
                refine lv_aload_n hx hb dX6_countTurns_156 rfl (lv_at hl 1 rfl) ?_
                refine w_getr hX hK hH ck6 sh111 16 11 122 fr6_16 rfl q4_89 dX6_countTurns_157 ?_
                refine lv_aload_n hx hb dX6_countTurns_160 rfl (lv_at hl 1 rfl) ?_
                refine w_geti hX hK hH ck6 sh111 18 fi6_18 q4_91 dX6_countTurns_161 ?_
                obtain ⟨hc, hq⟩ := hq
                refine w_iald hX hK hH (sf6_16 sh111) hc dX6_countTurns_164 ?_
                refine lv_iconst (v := 2) hx hb dX6_countTurns_165 (by decide) ?_
                refine lv_aload_n hx hb dX6_countTurns_166 rfl (lv_at hl 1 rfl) ?_
                refine w_getr hX hK hH ck6 sh111 17 12 123 fr6_17 rfl q4_90 dX6_countTurns_167 ?_
                refine lv_aload_n hx hb dX6_countTurns_170 rfl (lv_at hl 1 rfl) ?_
                refine w_geti hX hK hH ck6 sh111 18 fi6_18 q4_91 dX6_countTurns_171 ?_
                obtain ⟨hc, hq⟩ := hq
                refine w_iald hX hK hH (sf6_17 sh111) hc dX6_countTurns_174 ?_
                refine lv_iload_n hx hb dX6_countTurns_175 rfl (lv_at hl 2 rfl) ?_
                refine lv_iadd hx hb dX6_countTurns_176 ?_
                refine lv_imul hx hb dX6_countTurns_177 ?_
                refine lv_iadd hx hb dX6_countTurns_178 ?_
                refine lv_istore_n (lv' := [(1, .int ((I1 122 ((I1 111 18)).toNatClampNeg) + ((2 : Int32) * ((I1 123 ((I1 111 18)).toNatClampNeg) + v1)))), (3, .int (I 116 (v2).toNatClampNeg)), (0, .ref (b + 111)), (2, .int v2)]) hx hb dX6_countTurns_179 rfl hl (by decide) rfl (fun ls hl => ?_)
                refine lv_goto (tgt := 186) hx hb dX6_countTurns_180 (by decide) ?_
                exact s_X6_countTurns_186  C0 hK9 ((I1 122 ((I1 111 18)).toNatClampNeg) + ((2 : Int32) * ((I1 123 ((I1 111 18)).toNatClampNeg) + v1))) v2 _ _ _ _ hq hH (lv_sub hl [2, 0, 3] rfl)
            · have hq := hq.2 hc
              refine lv_aload_n hx hb dX6_countTurns_123 rfl (lv_at hl 1 rfl) ?_
              refine w_getr hX hK hH ck6 sh111 17 12 123 fr6_17 rfl q4_90 dX6_countTurns_124 ?_
              refine lv_aload_n hx hb dX6_countTurns_127 rfl (lv_at hl 1 rfl) ?_
              refine w_geti hX hK hH ck6 sh111 18 fi6_18 q4_91 dX6_countTurns_128 ?_
              refine lv_iconst (v := 1) hx hb dX6_countTurns_131 (by decide) ?_
              refine lv_isub hx hb dX6_countTurns_132 ?_
              refine lv_iload_n hx hb dX6_countTurns_133 rfl (lv_at hl 2 rfl) ?_
              obtain ⟨hc, hq⟩ := hq
              refine w_iast hX hK hH (sf6_17 sh111) hc dX6_countTurns_134 (fun I2 H locs hI hH => ?_)
              have hq := hq I2 hI
              refine lv_iconst (v := 0) hx hb dX6_countTurns_135 (by decide) ?_
              refine lv_istore_n (lv' := [(1, .int (0 : Int32)), (3, .int (I 116 (v2).toNatClampNeg)), (0, .ref (b + 111)), (2, .int v2)]) hx hb dX6_countTurns_136 rfl hl (by decide) rfl (fun ls hl => ?_)
              refine lv_goto (tgt := 186) hx hb dX6_countTurns_137 (by decide) ?_
              exact s_X6_countTurns_186  C0 hK9 (0 : Int32) v2 _ _ _ _ hq hH (lv_sub hl [2, 0, 3] rfl)
          · have hq := hq.2 hc
            refine lv_aload_n hx hb dX6_countTurns_77 rfl (lv_at hl 1 rfl) ?_
            refine lv_dup hx hb dX6_countTurns_78 rfl ?_
            refine w_geti hX hK hH ck6 sh111 18 fi6_18 q4_91 dX6_countTurns_79 ?_
            refine lv_iconst (v := 1) hx hb dX6_countTurns_82 (by decide) ?_
            refine lv_isub hx hb dX6_countTurns_83 ?_
            refine w_puti hX hK hH ck6 sh111 18 fw6_18 q4_91 dX6_countTurns_84 (fun I3 H locs hI hH => ?_)
            have hq := hq I3 hI
            refine lv_aload_n hx hb dX6_countTurns_87 rfl (lv_at hl 1 rfl) ?_
            refine w_getr hX hK hH ck6 sh111 16 11 122 fr6_16 rfl q4_89 dX6_countTurns_88 ?_
            refine lv_aload_n hx hb dX6_countTurns_91 rfl (lv_at hl 1 rfl) ?_
            refine w_geti hX hK hH ck6 sh111 18 fi6_18 q4_91 dX6_countTurns_92 ?_
            obtain ⟨hc, hq⟩ := hq
            refine w_iald hX hK hH (sf6_16 sh111) hc dX6_countTurns_95 ?_
            refine lv_iload_n hx hb dX6_countTurns_96 rfl (lv_at hl 2 rfl) ?_
            refine lv_aload_n hx hb dX6_countTurns_97 rfl (lv_at hl 1 rfl) ?_
            refine w_getr hX hK hH ck6 sh111 7 5 116 fr6_7 rfl q4_80 dX6_countTurns_98 ?_
            refine lv_iload_n hx hb dX6_countTurns_101 rfl (lv_at hl 3 rfl) ?_
            refine lv_iconst (v := 1) hx hb dX6_countTurns_102 (by decide) ?_
            refine lv_iadd hx hb dX6_countTurns_103 ?_
            obtain ⟨hc, hq⟩ := hq
            refine w_iald hX hK hH (sf6_7 sh111) hc dX6_countTurns_104 ?_
            refine lv_bipush (v := 48) hx hb dX6_countTurns_105 (by decide) ?_
            refine lv_isub hx hb dX6_countTurns_107 ?_
            refine lv_imul hx hb dX6_countTurns_108 ?_
            refine lv_iadd hx hb dX6_countTurns_109 ?_
            refine lv_istore_n (lv' := [(1, .int ((I3 122 ((I3 111 18)).toNatClampNeg) + (v1 * ((I3 116 ((v2 + (1 : Int32))).toNatClampNeg) - (48 : Int32))))), (3, .int (I 116 (v2).toNatClampNeg)), (0, .ref (b + 111)), (2, .int v2)]) hx hb dX6_countTurns_110 rfl hl (by decide) rfl (fun ls hl => ?_)
            refine lv_iinc (v := (v2 + (1 : Int32))) (lv' := [(2, .int (v2 + (1 : Int32))), (1, .int ((I3 122 ((I3 111 18)).toNatClampNeg) + (v1 * ((I3 116 ((v2 + (1 : Int32))).toNatClampNeg) - (48 : Int32))))), (3, .int (I 116 (v2).toNatClampNeg)), (0, .ref (b + 111))]) hx hb dX6_countTurns_111 hl (k := 3) rfl rfl (by decide) rfl (fun ls hl => ?_)
            refine lv_goto (tgt := 186) hx hb dX6_countTurns_114 (by decide) ?_
            exact s_X6_countTurns_186  C0 hK9 ((I3 122 ((I3 111 18)).toNatClampNeg) + (v1 * ((I3 116 ((v2 + (1 : Int32))).toNatClampNeg) - (48 : Int32)))) (v2 + (1 : Int32)) _ _ _ _ hq hH (lv_sub hl [3, 1, 0] rfl)
        · have hq := hq.2 hc
          exact s_X6_countTurns_36  C0 hK9 v1 v2 _ _ _ _ hq hH (lv_sub hl [1, 2, 3] rfl)
set_option maxRecDepth 100000 in
set_option maxHeartbeats 4000000 in
theorem c_X6_countTurns {l : Launch} {D : va_G} {cs : wC4} {ad : Nat → Nat} {b : Nat} {G : wG}  (I : wI) (hp : pre_X6_countTurns  I) : Met l yX6_countTurns (ws_ yX6_countTurns cX6_countTurns 4 (some .int)) rm_X6_countTurns (va_Pc [.ref (b + 111)] (wPr D cs ad b G I)) (va_Qi (fun r I' => post_X6_countTurns  I r I') (wPo D cs b G) (fun q => b ≤ q)) 0 0 (fun q => b ≤ q) := by
  have hq := vc_X6_countTurns  I hp
  refine w_met (by decide) (Nat.le_of_ble_eq_true rfl) ?_
  intro p e s m below meth c hX hr hlk hK hE hH ls hl
  have C0 : wCx p m c s _ meth cX6_countTurns 4 RX6 (some .int) D cs ad b := ⟨hX, hr, hlk, hK, hE⟩
  have hX : CallFix p m c cX6_countTurns 4 s _ lw_all RX6 := hX
  have hx := hX.1
  have hb := hX.2.1
  have hown := hX.2.2.2.1
  have hts := hX.2.2.2.2
  have hl : lv_has ls 4 [(0, .ref (b + 111))] := hl
  unfold v_X6_countTurns at hq
  refine lv_iconst (v := 0) hx hb dX6_countTurns_0 (by decide) ?_
  refine lv_istore_n (lv' := [(1, .int (0 : Int32)), (0, .ref (b + 111))]) hx hb dX6_countTurns_1 rfl hl (by decide) rfl (fun ls hl => ?_)
  refine lv_aload_n hx hb dX6_countTurns_2 rfl (lv_at hl 1 rfl) ?_
  refine lv_iconst (v := 0) hx hb dX6_countTurns_3 (by decide) ?_
  refine w_puti hX hK hH ck6 sh111 18 fw6_18 q4_91 dX6_countTurns_4 (fun I1 H locs hI hH => ?_)
  have hq := hq I1 hI
  refine lv_iconst (v := 0) hx hb dX6_countTurns_7 (by decide) ?_
  refine lv_istore_n (lv' := [(2, .int (0 : Int32)), (1, .int (0 : Int32)), (0, .ref (b + 111))]) hx hb dX6_countTurns_8 rfl hl (by decide) rfl (fun ls hl => ?_)
  obtain ⟨f, hq⟩ := hq
  exact s_X6_countTurns_9  C0  f (0 : Int32) (0 : Int32) _ _ _ _ hq hH (lv_sub hl [2, 1, 0] rfl)
abbrev rm_X6_keysAt : Room := { frames := 1, cells := 0, slots := 0, locals := 22 }
theorem hd_X6_keysAt : yX6_keysAt.cls = RX6 ∧ yX6_keysAt.cls ≠ "java/lang/invoke/MethodHandle" ∧ yX6_keysAt.cls ≠ "java/lang/invoke/VarHandle" ∧ (parseMethodDescriptor yX6_keysAt.desc).map (fun d => d.parameters.length) = some 1 := by decide +kernel
set_option maxRecDepth 100000 in
set_option maxHeartbeats 4000000 in
theorem s_X6_keysAt_26 {x1 : Int32} {I : wI} {Q : Int32 → Prop} {K4 : Int32 → Int32 → Prop} (C0 : wCx p m c s args meth cX6_keysAt 4 RX6 (some .int) D cs ad b) (hK4 : ∀ (v2 : Int32) (v3 : Int32) (H : Heap) (locs : List Loc) (ls : Array Slot), K4 v2 v3 → wH D cs b G I s H locs → lv_has ls 4 [(0, .ref (b + 111)), (1, .int x1), (2, .int v2), (3, .int v3)] → W p l e rm_X6_keysAt s m args below meth c H locs 0 0 (MQ below (va_Qi (fun r I' => I' = I ∧ Q r) (wPo D cs b G) (fun q => b ≤ q)) args s 0 0 (fun q => b ≤ q)) (F0 m 4 ls [])) : ∀ (v3 : Int32) (t0 : Int32) (t1 : Int32) (H : Heap) (locs : List Loc) (ls : Array Slot), v_X6_keysAt_26 x1 I Q K4 v3 t0 t1 → wH D cs b G I s H locs → lv_has ls 4 [(0, .ref (b + 111)), (1, .int x1), (3, .int v3)] → W p l e rm_X6_keysAt s m args below meth c H locs 0 0 (MQ below (va_Qi (fun r I' => I' = I ∧ Q r) (wPo D cs b G) (fun q => b ≤ q)) args s 0 0 (fun q => b ≤ q)) (F0 m 26 ls [.int t0, .int t1]) := by
  obtain ⟨hX, hr, hlk, hK, hE⟩ := id C0
  have hx := hX.1
  have hb := hX.2.1
  have hown := hX.2.2.2.1
  have hts := hX.2.2.2.2
  intro v3 t0 t1 H locs ls hq hH hl
  unfold v_X6_keysAt_26 at hq
  refine lv_ior hx hb dX6_keysAt_26 ?_
  refine lv_istore_n (lv' := [(2, .int (t1 ||| t0)), (0, .ref (b + 111)), (1, .int x1), (3, .int v3)]) hx hb dX6_keysAt_27 rfl hl (by decide) rfl (fun ls hl => ?_)
  refine lv_iinc (v := (v3 + (1 : Int32))) (lv' := [(3, .int (v3 + (1 : Int32))), (2, .int (t1 ||| t0)), (0, .ref (b + 111)), (1, .int x1)]) hx hb dX6_keysAt_28 hl (k := 3) rfl rfl (by decide) rfl (fun ls hl => ?_)
  refine lv_goto (tgt := 4) hx hb dX6_keysAt_31 (by decide) ?_
  exact hK4 (t1 ||| t0) (v3 + (1 : Int32)) _ _ _ hq hH (lv_sub hl [2, 3, 1, 0] rfl)
set_option maxRecDepth 100000 in
set_option maxHeartbeats 4000000 in
theorem s_X6_keysAt_4 {x1 : Int32} {I : wI} {Q : Int32 → Prop} (C0 : wCx p m c s args meth cX6_keysAt 4 RX6 (some .int) D cs ad b) : ∀ (f : Nat) (v2 : Int32) (v3 : Int32) (H : Heap) (locs : List Loc) (ls : Array Slot), v_X6_keysAt_4 x1 I Q f v2 v3 → wH D cs b G I s H locs → lv_has ls 4 [(0, .ref (b + 111)), (1, .int x1), (2, .int v2), (3, .int v3)] → W p l e rm_X6_keysAt s m args below meth c H locs 0 0 (MQ below (va_Qi (fun r I' => I' = I ∧ Q r) (wPo D cs b G) (fun q => b ≤ q)) args s 0 0 (fun q => b ≤ q)) (F0 m 4 ls []) := by
  obtain ⟨hX, hr, hlk, hK, hE⟩ := id C0
  have hx := hX.1
  have hb := hX.2.1
  have hown := hX.2.2.2.1
  have hts := hX.2.2.2.2
  intro f
  induction f with
  | zero =>
    intro v2 v3 H locs ls hq
    exact hq.elim
  | succ f hK4 =>
    intro v2 v3 H locs ls hq hH hl
    have hq : g_X6_keysAt_4 x1 I Q (v_X6_keysAt_4 x1 I Q f) v2 v3 := hq
    unfold g_X6_keysAt_4 at hq
    refine lv_iload_n hx hb dX6_keysAt_4 rfl (lv_at hl 3 rfl) ?_
    refine lv_iconst (v := 5) hx hb dX6_keysAt_5 (by decide) ?_
    refine lv_icmp_ge (tgt := 34) hx hb dX6_keysAt_6 (by decide) (fun hc => ?_) (fun hc => ?_)
    · have hq := hq.1 hc
      refine lv_iload_n hx hb dX6_keysAt_34 rfl (lv_at hl 2 rfl) ?_
      exact w_eI hX hr hlk hH ⟨rfl, hq⟩ dX6_keysAt_35
    · have hq := hq.2 hc
      refine lv_iload_n hx hb dX6_keysAt_9 rfl (lv_at hl 2 rfl) ?_
      refine lv_aload_n hx hb dX6_keysAt_10 rfl (lv_at hl 0 rfl) ?_
      refine lv_iload_n hx hb dX6_keysAt_11 rfl (lv_at hl 3 rfl) ?_
      refine lv_iload_n hx hb dX6_keysAt_12 rfl (lv_at hl 1 rfl) ?_
      obtain ⟨hp, hq⟩ := hq
      refine w_cIp hH (w_rV (As := [.int v3, .int x1]) (rest := [.int v2]) hX hK hE hH (c_X6_has  _ _ _ hp) ck6 sh111 q4_175 q4_177 qs32 q1_7 q4_178 hd_X6_has ⟨Nat.le_of_ble_eq_true rfl, Nat.le_of_ble_eq_true rfl⟩ ⟨rfl, rfl⟩ rfl hl.1 rfl (Nat.le_of_ble_eq_true rfl) dX6_keysAt_13 ⟨Nat.zero_le _, Nat.zero_le _⟩) (fun r1  H locs hpo hH => ?_)
      have hq := hq r1  hpo
      refine lv_if_eq (tgt := 25) hx hb dX6_keysAt_16 (by decide) (fun hc => ?_) (fun hc => ?_)
      · have hq := hq.1 hc
        refine lv_iconst (v := 0) hx hb dX6_keysAt_25 (by decide) ?_
        exact s_X6_keysAt_26  C0 hK4 v3 (0 : Int32) v2 _ _ _ hq hH (lv_sub hl [0, 1, 3] rfl)
      · have hq := hq.2 hc
        refine lv_iconst (v := 1) hx hb dX6_keysAt_19 (by decide) ?_
        refine lv_iload_n hx hb dX6_keysAt_20 rfl (lv_at hl 3 rfl) ?_
        refine lv_ishl hx hb dX6_keysAt_21 ?_
        refine lv_goto (tgt := 26) hx hb dX6_keysAt_22 (by decide) ?_
        exact s_X6_keysAt_26  C0 hK4 v3 ((1 : Int32) <<< (v3 &&& 31)) v2 _ _ _ hq hH (lv_sub hl [0, 1, 3] rfl)
set_option maxRecDepth 100000 in
set_option maxHeartbeats 4000000 in
theorem c_X6_keysAt {l : Launch} {D : va_G} {cs : wC4} {ad : Nat → Nat} {b : Nat} {G : wG} (x1 : Int32) (I : wI) (hp : pre_X6_keysAt x1 I) : Met l yX6_keysAt (ws_ yX6_keysAt cX6_keysAt 4 (some .int)) rm_X6_keysAt (va_Pc [.ref (b + 111), .int x1] (wPr D cs ad b G I)) (va_Qi (fun r I' => I' = I ∧ post_X6_keysAt x1 I r) (wPo D cs b G) (fun q => b ≤ q)) 0 0 (fun q => b ≤ q) := by
  have hq := vc_X6_keysAt x1 I hp
  refine w_met (by decide) (Nat.le_of_ble_eq_true rfl) ?_
  intro p e s m below meth c hX hr hlk hK hE hH ls hl
  have C0 : wCx p m c s _ meth cX6_keysAt 4 RX6 (some .int) D cs ad b := ⟨hX, hr, hlk, hK, hE⟩
  have hX : CallFix p m c cX6_keysAt 4 s _ lw_all RX6 := hX
  have hx := hX.1
  have hb := hX.2.1
  have hown := hX.2.2.2.1
  have hts := hX.2.2.2.2
  have hl : lv_has ls 4 [(0, .ref (b + 111)), (1, .int x1)] := hl
  unfold v_X6_keysAt at hq
  refine lv_iconst (v := 0) hx hb dX6_keysAt_0 (by decide) ?_
  refine lv_istore_n (lv' := [(2, .int (0 : Int32)), (0, .ref (b + 111)), (1, .int x1)]) hx hb dX6_keysAt_1 rfl hl (by decide) rfl (fun ls hl => ?_)
  refine lv_iconst (v := 0) hx hb dX6_keysAt_2 (by decide) ?_
  refine lv_istore_n (lv' := [(3, .int (0 : Int32)), (2, .int (0 : Int32)), (0, .ref (b + 111)), (1, .int x1)]) hx hb dX6_keysAt_3 rfl hl (by decide) rfl (fun ls hl => ?_)
  obtain ⟨f, hq⟩ := hq
  exact s_X6_keysAt_4  C0  f (0 : Int32) (0 : Int32) _ _ _ hq hH (lv_sub hl [2, 3, 1, 0] rfl)
abbrev rm_X6_atNow : Room := { frames := 2, cells := 0, slots := 0, locals := 45 }
theorem hd_X6_atNow : yX6_atNow.cls = RX6 ∧ yX6_atNow.cls ≠ "java/lang/invoke/MethodHandle" ∧ yX6_atNow.cls ≠ "java/lang/invoke/VarHandle" ∧ (parseMethodDescriptor yX6_atNow.desc).map (fun d => d.parameters.length) = some 2 := by decide +kernel
set_option maxRecDepth 100000 in
set_option maxHeartbeats 4000000 in
theorem s_X6_atNow_74 {x1 : Int32} {x2 : Int32} {I : wI} {Q : Int32 → Prop} (C0 : wCx p m c s args meth cX6_atNow 3 RX6 (some .int) D cs ad b) : ∀ (t0 : Int32) (H : Heap) (locs : List Loc) (ls : Array Slot), v_X6_atNow_74 x1 x2 I Q t0 → wH D cs b G I s H locs → lv_has ls 3 [] → W p l e rm_X6_atNow s m args below meth c H locs 0 0 (MQ below (va_Qi (fun r I' => I' = I ∧ Q r) (wPo D cs b G) (fun q => b ≤ q)) args s 0 0 (fun q => b ≤ q)) (F0 m 74 ls [.int t0]) := by
  obtain ⟨hX, hr, hlk, hK, hE⟩ := id C0
  have hx := hX.1
  have hb := hX.2.1
  have hown := hX.2.2.2.1
  have hts := hX.2.2.2.2
  intro t0 H locs ls hq hH hl
  unfold v_X6_atNow_74 at hq
  exact w_eI hX hr hlk hH ⟨rfl, hq⟩ dX6_atNow_74
set_option maxRecDepth 100000 in
set_option maxHeartbeats 4000000 in
theorem c_X6_atNow {l : Launch} {D : va_G} {cs : wC4} {ad : Nat → Nat} {b : Nat} {G : wG} (x1 : Int32) (x2 : Int32) (I : wI) (hp : pre_X6_atNow x1 x2 I) : Met l yX6_atNow (ws_ yX6_atNow cX6_atNow 3 (some .int)) rm_X6_atNow (va_Pc [.ref (b + 111), .int x1, .int x2] (wPr D cs ad b G I)) (va_Qi (fun r I' => I' = I ∧ post_X6_atNow x1 x2 I r) (wPo D cs b G) (fun q => b ≤ q)) 0 0 (fun q => b ≤ q) := by
  have hq := vc_X6_atNow x1 x2 I hp
  refine w_met (by decide) (Nat.le_of_ble_eq_true rfl) ?_
  intro p e s m below meth c hX hr hlk hK hE hH ls hl
  have C0 : wCx p m c s _ meth cX6_atNow 3 RX6 (some .int) D cs ad b := ⟨hX, hr, hlk, hK, hE⟩
  have hX : CallFix p m c cX6_atNow 3 s _ lw_all RX6 := hX
  have hx := hX.1
  have hb := hX.2.1
  have hown := hX.2.2.2.1
  have hts := hX.2.2.2.2
  have hl : lv_has ls 3 [(0, .ref (b + 111)), (1, .int x1), (2, .int x2)] := hl
  unfold v_X6_atNow at hq
  refine lv_iload_n hx hb dX6_atNow_0 rfl (lv_at hl 2 rfl) ?_
  by_cases hc0 : x2 = (0 : Int32)
  · have hq := hq.1 hc0
    refine lv_tableIn (tgt := 32) hx hb dX6_atNow_1 (by rw [hc0]; decide) (by rw [hc0]; decide) (by rw [hc0]; rfl) (by decide) ?_
    refine lv_aload_n hx hb dX6_atNow_32 rfl (lv_at hl 0 rfl) ?_
    refine w_getr hX hK hH ck6 sh111 1 1 112 fr6_1 rfl q4_74 dX6_atNow_33 ?_
    refine lv_iconst (v := 0) hx hb dX6_atNow_36 (by decide) ?_
    refine lv_iload_n hx hb dX6_atNow_37 rfl (lv_at hl 1 rfl) ?_
    refine lv_iadd hx hb dX6_atNow_38 ?_
    obtain ⟨hc, hq⟩ := hq
    refine w_iald hX hK hH (sf6_1 sh111) hc dX6_atNow_39 ?_
    exact w_eI hX hr hlk hH ⟨rfl, hq⟩ dX6_atNow_40
  by_cases hc1 : x2 = (1 : Int32)
  · have hq := hq.2.1 hc1
    refine lv_tableIn (tgt := 41) hx hb dX6_atNow_1 (by rw [hc1]; decide) (by rw [hc1]; decide) (by rw [hc1]; rfl) (by decide) ?_
    refine lv_aload_n hx hb dX6_atNow_41 rfl (lv_at hl 0 rfl) ?_
    refine w_getr hX hK hH ck6 sh111 1 1 112 fr6_1 rfl q4_74 dX6_atNow_42 ?_
    refine lv_bipush (v := 6) hx hb dX6_atNow_45 (by decide) ?_
    refine lv_iload_n hx hb dX6_atNow_47 rfl (lv_at hl 1 rfl) ?_
    refine lv_iadd hx hb dX6_atNow_48 ?_
    obtain ⟨hc, hq⟩ := hq
    refine w_iald hX hK hH (sf6_1 sh111) hc dX6_atNow_49 ?_
    exact w_eI hX hr hlk hH ⟨rfl, hq⟩ dX6_atNow_50
  by_cases hc2 : x2 = (2 : Int32)
  · have hq := hq.2.2.1 hc2
    refine lv_tableIn (tgt := 51) hx hb dX6_atNow_1 (by rw [hc2]; decide) (by rw [hc2]; decide) (by rw [hc2]; rfl) (by decide) ?_
    refine lv_aload_n hx hb dX6_atNow_51 rfl (lv_at hl 0 rfl) ?_
    refine w_getr hX hK hH ck6 sh111 1 1 112 fr6_1 rfl q4_74 dX6_atNow_52 ?_
    refine lv_bipush (v := 12) hx hb dX6_atNow_55 (by decide) ?_
    refine lv_iload_n hx hb dX6_atNow_57 rfl (lv_at hl 1 rfl) ?_
    refine lv_iadd hx hb dX6_atNow_58 ?_
    obtain ⟨hc, hq⟩ := hq
    refine w_iald hX hK hH (sf6_1 sh111) hc dX6_atNow_59 ?_
    exact w_eI hX hr hlk hH ⟨rfl, hq⟩ dX6_atNow_60
  by_cases hc3 : x2 = (3 : Int32)
  · have hq := hq.2.2.2.1 hc3
    refine lv_tableIn (tgt := 61) hx hb dX6_atNow_1 (by rw [hc3]; decide) (by rw [hc3]; decide) (by rw [hc3]; rfl) (by decide) ?_
    refine lv_aload_n hx hb dX6_atNow_61 rfl (lv_at hl 0 rfl) ?_
    refine lv_iload_n hx hb dX6_atNow_62 rfl (lv_at hl 1 rfl) ?_
    obtain ⟨hp, hq⟩ := hq
    refine w_cIp hH (w_rV (As := [.int x1]) (rest := []) hX hK hE hH (c_X6_isRight  _ _ hp) ck6 sh111 q4_191 q4_193 qs36 q1_7 q4_194 hd_X6_isRight ⟨Nat.le_of_ble_eq_true rfl, Nat.le_of_ble_eq_true rfl⟩ ⟨rfl, rfl⟩ rfl hl.1 rfl (Nat.le_of_ble_eq_true rfl) dX6_atNow_63 ⟨Nat.zero_le _, Nat.zero_le _⟩) (fun r1  H locs hpo hH => ?_)
    have hq := hq r1  hpo
    refine lv_if_eq (tgt := 73) hx hb dX6_atNow_66 (by decide) (fun hc => ?_) (fun hc => ?_)
    · have hq := hq.1 hc
      refine lv_iconst (v := 0) hx hb dX6_atNow_73 (by decide) ?_
      exact s_X6_atNow_74  C0  (0 : Int32) _ _ _ hq hH (lv_sub hl [] rfl)
    · have hq := hq.2 hc
      refine lv_iconst (v := 1) hx hb dX6_atNow_69 (by decide) ?_
      refine lv_goto (tgt := 74) hx hb dX6_atNow_70 (by decide) ?_
      exact s_X6_atNow_74  C0  (1 : Int32) _ _ _ hq hH (lv_sub hl [] rfl)
  have hq := hq.2.2.2.2 ⟨hc0, hc1, hc2, hc3⟩
  have he0 := w_toInt_ne hc0
  have he1 := w_toInt_ne hc1
  have he2 := w_toInt_ne hc2
  have he3 := w_toInt_ne hc3
  refine lv_tableOut (tgt := 75) hx hb dX6_atNow_1 (w_swOut0_3 hc0 hc1 hc2 hc3) (by decide) ?_
  refine lv_aload_n hx hb dX6_atNow_75 rfl (lv_at hl 0 rfl) ?_
  refine lv_iload_n hx hb dX6_atNow_76 rfl (lv_at hl 1 rfl) ?_
  obtain ⟨hp, hq⟩ := hq
  refine w_cIp hH (w_rV (As := [.int x1]) (rest := []) hX hK hE hH (c_X6_keysAt  _ _ hp) ck6 sh111 q5_53 q5_55 qs50 q1_7 q5_56 hd_X6_keysAt ⟨Nat.le_of_ble_eq_true rfl, Nat.le_of_ble_eq_true rfl⟩ ⟨rfl, rfl⟩ rfl hl.1 rfl (Nat.le_of_ble_eq_true rfl) dX6_atNow_77 ⟨Nat.zero_le _, Nat.zero_le _⟩) (fun r2  H locs hpo hH => ?_)
  have hq := hq r2  hpo
  exact w_eI hX hr hlk hH ⟨rfl, hq⟩ dX6_atNow_80
abbrev rm_X6_at : Room := { frames := 3, cells := 0, slots := 0, locals := 67 }
theorem hd_X6_at : yX6_at.cls = RX6 ∧ yX6_at.cls ≠ "java/lang/invoke/MethodHandle" ∧ yX6_at.cls ≠ "java/lang/invoke/VarHandle" ∧ (parseMethodDescriptor yX6_at.desc).map (fun d => d.parameters.length) = some 2 := by decide +kernel
set_option maxRecDepth 100000 in
set_option maxHeartbeats 4000000 in
theorem s_X6_at_46 {x1 : Int32} {x2 : Int32} {Q : Int32 → wI → Prop} (C0 : wCx p m c s args meth cX6_at 3 RX6 (some .int) D cs ad b) : ∀ (t0 : Int32) (I : wI) (H : Heap) (locs : List Loc) (ls : Array Slot), v_X6_at_46 x1 x2 Q t0 I → wH D cs b G I s H locs → lv_has ls 3 [] → W p l e rm_X6_at s m args below meth c H locs 0 0 (MQ below (va_Qi (Q) (wPo D cs b G) (fun q => b ≤ q)) args s 0 0 (fun q => b ≤ q)) (F0 m 46 ls [.int t0]) := by
  obtain ⟨hX, hr, hlk, hK, hE⟩ := id C0
  have hx := hX.1
  have hb := hX.2.1
  have hown := hX.2.2.2.1
  have hts := hX.2.2.2.2
  intro t0 I H locs ls hq hH hl
  unfold v_X6_at_46 at hq
  exact w_eI hX hr hlk hH hq dX6_at_46
set_option maxRecDepth 100000 in
set_option maxHeartbeats 4000000 in
theorem s_X6_at_26 {x1 : Int32} {x2 : Int32} {Q : Int32 → wI → Prop} (C0 : wCx p m c s args meth cX6_at 3 RX6 (some .int) D cs ad b) : ∀ (t0 : Int32) (I : wI) (H : Heap) (locs : List Loc) (ls : Array Slot), v_X6_at_26 x1 x2 Q t0 I → wH D cs b G I s H locs → lv_has ls 3 [(0, .ref (b + 111)), (1, .int x1), (2, .int x2)] → W p l e rm_X6_at s m args below meth c H locs 0 0 (MQ below (va_Qi (Q) (wPo D cs b G) (fun q => b ≤ q)) args s 0 0 (fun q => b ≤ q)) (F0 m 26 ls [.int t0, .ref (b + 111)]) := by
  obtain ⟨hX, hr, hlk, hK, hE⟩ := id C0
  have hx := hX.1
  have hb := hX.2.1
  have hown := hX.2.2.2.1
  have hts := hX.2.2.2.2
  intro t0 I H locs ls hq hH hl
  unfold v_X6_at_26 at hq
  refine w_puti hX hK hH ck6 sh111 0 fw6_0 q4_73 dX6_at_26 (fun I1 H locs hI hH => ?_)
  have hq := hq I1 hI
  refine lv_aload_n hx hb dX6_at_29 rfl (lv_at hl 0 rfl) ?_
  refine w_geti hX hK hH ck6 sh111 0 fi6_0 q4_73 dX6_at_30 ?_
  refine lv_if_le (tgt := 40) hx hb dX6_at_33 (by decide) (fun hc => ?_) (fun hc => ?_)
  · have hq := hq.1 hc
    refine lv_aload_n hx hb dX6_at_40 rfl (lv_at hl 0 rfl) ?_
    refine lv_iload_n hx hb dX6_at_41 rfl (lv_at hl 1 rfl) ?_
    refine lv_iload_n hx hb dX6_at_42 rfl (lv_at hl 2 rfl) ?_
    obtain ⟨hp, hq⟩ := hq
    refine w_cIp hH (w_rV (As := [.int x1, .int x2]) (rest := []) hX hK hE hH (c_X6_atNow  _ _ _ hp) ck6 sh111 q5_49 q5_51 qs49 q1_7 q5_52 hd_X6_atNow ⟨Nat.le_of_ble_eq_true rfl, Nat.le_of_ble_eq_true rfl⟩ ⟨rfl, rfl⟩ rfl hl.1 rfl (Nat.le_of_ble_eq_true rfl) dX6_at_43 ⟨Nat.zero_le _, Nat.zero_le _⟩) (fun r2  H locs hpo hH => ?_)
    have hq := hq r2  hpo
    exact s_X6_at_46  C0  r2 _ _ _ _ hq hH (lv_sub hl [] rfl)
  · have hq := hq.2 hc
    refine lv_iconst (v := 0) hx hb dX6_at_36 (by decide) ?_
    refine lv_goto (tgt := 46) hx hb dX6_at_37 (by decide) ?_
    exact s_X6_at_46  C0  (0 : Int32) _ _ _ _ hq hH (lv_sub hl [] rfl)
set_option maxRecDepth 100000 in
set_option maxHeartbeats 4000000 in
theorem c_X6_at {l : Launch} {D : va_G} {cs : wC4} {ad : Nat → Nat} {b : Nat} {G : wG} (x1 : Int32) (x2 : Int32) (I : wI) (hp : pre_X6_at x1 x2 I) : Met l yX6_at (ws_ yX6_at cX6_at 3 (some .int)) rm_X6_at (va_Pc [.ref (b + 111), .int x1, .int x2] (wPr D cs ad b G I)) (va_Qi (fun r I' => post_X6_at x1 x2 I r I') (wPo D cs b G) (fun q => b ≤ q)) 0 0 (fun q => b ≤ q) := by
  have hq := vc_X6_at x1 x2 I hp
  refine w_met (by decide) (Nat.le_of_ble_eq_true rfl) ?_
  intro p e s m below meth c hX hr hlk hK hE hH ls hl
  have C0 : wCx p m c s _ meth cX6_at 3 RX6 (some .int) D cs ad b := ⟨hX, hr, hlk, hK, hE⟩
  have hX : CallFix p m c cX6_at 3 s _ lw_all RX6 := hX
  have hx := hX.1
  have hb := hX.2.1
  have hown := hX.2.2.2.1
  have hts := hX.2.2.2.2
  have hl : lv_has ls 3 [(0, .ref (b + 111)), (1, .int x1), (2, .int x2)] := hl
  unfold v_X6_at at hq
  refine lv_aload_n hx hb dX6_at_0 rfl (lv_at hl 0 rfl) ?_
  refine lv_iload_n hx hb dX6_at_1 rfl (lv_at hl 1 rfl) ?_
  obtain ⟨hp, hq⟩ := hq
  refine w_cIp hH (w_rS (As := [.int x1]) (rest := [.ref (b + 111)]) hX hK hE hH (c_X6_isPlace  _ _ hp) q5_18 q5_19 q1_7 q5_20 hd_X6_isPlace.2 ⟨Nat.le_of_ble_eq_true rfl, Nat.le_of_ble_eq_true rfl⟩ ⟨rfl, rfl⟩ rfl hl.1 rfl (Nat.le_of_ble_eq_true rfl) dX6_at_2 ⟨Nat.zero_le _, Nat.zero_le _⟩) (fun r1  H locs hpo hH => ?_)
  have hq := hq r1  hpo
  refine lv_if_ne (tgt := 12) hx hb dX6_at_5 (by decide) (fun hc => ?_) (fun hc => ?_)
  · have hq := hq.1 hc
    refine lv_iload_n hx hb dX6_at_12 rfl (lv_at hl 2 rfl) ?_
    refine lv_iconst (v := 0) hx hb dX6_at_13 (by decide) ?_
    refine lv_iconst (v := 4) hx hb dX6_at_14 (by decide) ?_
    obtain ⟨hp, hq⟩ := hq
    refine w_cIp hH (w_rS (As := [.int x2, .int (0 : Int32), .int (4 : Int32)]) (rest := [.ref (b + 111)]) hX hK hE hH (c_X6_in  _ _ _ _ hp) q4_168 q4_169 q1_7 q4_170 hd_X6_in.2 ⟨Nat.le_of_ble_eq_true rfl, Nat.le_of_ble_eq_true rfl⟩ ⟨rfl, rfl⟩ rfl hl.1 rfl (Nat.le_of_ble_eq_true rfl) dX6_at_15 ⟨Nat.zero_le _, Nat.zero_le _⟩) (fun r2  H locs hpo hH => ?_)
    have hq := hq r2  hpo
    refine lv_if_eq (tgt := 25) hx hb dX6_at_18 (by decide) (fun hc => ?_) (fun hc => ?_)
    · have hq := hq.1 hc
      refine lv_iconst (v := 2) hx hb dX6_at_25 (by decide) ?_
      exact s_X6_at_26  C0  (2 : Int32) _ _ _ _ hq hH (lv_sub hl [0, 1, 2] rfl)
    · have hq := hq.2 hc
      refine lv_iconst (v := 0) hx hb dX6_at_21 (by decide) ?_
      refine lv_goto (tgt := 26) hx hb dX6_at_22 (by decide) ?_
      exact s_X6_at_26  C0  (0 : Int32) _ _ _ _ hq hH (lv_sub hl [0, 1, 2] rfl)
  · have hq := hq.2 hc
    refine lv_iconst (v := 1) hx hb dX6_at_8 (by decide) ?_
    refine lv_goto (tgt := 26) hx hb dX6_at_9 (by decide) ?_
    exact s_X6_at_26  C0  (1 : Int32) _ _ _ _ hq hH (lv_sub hl [0, 1, 2] rfl)
abbrev rm_X6_reach : Room := { frames := 0, cells := 0, slots := 0, locals := 0 }
theorem hd_X6_reach : yX6_reach.cls = RX6 ∧ yX6_reach.cls ≠ "java/lang/invoke/MethodHandle" ∧ yX6_reach.cls ≠ "java/lang/invoke/VarHandle" ∧ (parseMethodDescriptor yX6_reach.desc).map (fun d => d.parameters.length) = some 0 := by decide +kernel
set_option maxRecDepth 100000 in
set_option maxHeartbeats 4000000 in
theorem s_X6_reach_42 {I : wI} {Q : Int32 → Prop} {K4 : Int32 → Int32 → Prop} (C0 : wCx p m c s args meth cX6_reach 3 RX6 (some .int) D cs ad b) (hK4 : ∀ (v1 : Int32) (v2 : Int32) (H : Heap) (locs : List Loc) (ls : Array Slot), K4 v1 v2 → wH D cs b G I s H locs → lv_has ls 3 [(0, .ref (b + 111)), (1, .int v1), (2, .int v2)] → W p l e rm_X6_reach s m args below meth c H locs 0 0 (MQ below (va_Qi (fun r I' => I' = I ∧ Q r) (wPo D cs b G) (fun q => b ≤ q)) args s 0 0 (fun q => b ≤ q)) (F0 m 4 ls [])) : ∀ (v2 : Int32) (t0 : Int32) (t1 : Int32) (H : Heap) (locs : List Loc) (ls : Array Slot), v_X6_reach_42 I Q K4 v2 t0 t1 → wH D cs b G I s H locs → lv_has ls 3 [(0, .ref (b + 111)), (2, .int v2)] → W p l e rm_X6_reach s m args below meth c H locs 0 0 (MQ below (va_Qi (fun r I' => I' = I ∧ Q r) (wPo D cs b G) (fun q => b ≤ q)) args s 0 0 (fun q => b ≤ q)) (F0 m 42 ls [.int t0, .int t1]) := by
  obtain ⟨hX, hr, hlk, hK, hE⟩ := id C0
  have hx := hX.1
  have hb := hX.2.1
  have hown := hX.2.2.2.1
  have hts := hX.2.2.2.2
  intro v2 t0 t1 H locs ls hq hH hl
  unfold v_X6_reach_42 at hq
  refine lv_ior hx hb dX6_reach_42 ?_
  refine lv_istore_n (lv' := [(1, .int (t1 ||| t0)), (0, .ref (b + 111)), (2, .int v2)]) hx hb dX6_reach_43 rfl hl (by decide) rfl (fun ls hl => ?_)
  refine lv_iinc (v := (v2 + (1 : Int32))) (lv' := [(2, .int (v2 + (1 : Int32))), (1, .int (t1 ||| t0)), (0, .ref (b + 111))]) hx hb dX6_reach_44 hl (k := 2) rfl rfl (by decide) rfl (fun ls hl => ?_)
  refine lv_goto (tgt := 4) hx hb dX6_reach_47 (by decide) ?_
  exact hK4 (t1 ||| t0) (v2 + (1 : Int32)) _ _ _ hq hH (lv_sub hl [2, 1, 0] rfl)
set_option maxRecDepth 100000 in
set_option maxHeartbeats 4000000 in
theorem s_X6_reach_35 {I : wI} {Q : Int32 → Prop} {K4 : Int32 → Int32 → Prop} (C0 : wCx p m c s args meth cX6_reach 3 RX6 (some .int) D cs ad b) (hK4 : ∀ (v1 : Int32) (v2 : Int32) (H : Heap) (locs : List Loc) (ls : Array Slot), K4 v1 v2 → wH D cs b G I s H locs → lv_has ls 3 [(0, .ref (b + 111)), (1, .int v1), (2, .int v2)] → W p l e rm_X6_reach s m args below meth c H locs 0 0 (MQ below (va_Qi (fun r I' => I' = I ∧ Q r) (wPo D cs b G) (fun q => b ≤ q)) args s 0 0 (fun q => b ≤ q)) (F0 m 4 ls [])) : ∀ (v2 : Int32) (t0 : Int32) (H : Heap) (locs : List Loc) (ls : Array Slot), v_X6_reach_35 I Q K4 v2 t0 → wH D cs b G I s H locs → lv_has ls 3 [(0, .ref (b + 111)), (2, .int v2)] → W p l e rm_X6_reach s m args below meth c H locs 0 0 (MQ below (va_Qi (fun r I' => I' = I ∧ Q r) (wPo D cs b G) (fun q => b ≤ q)) args s 0 0 (fun q => b ≤ q)) (F0 m 35 ls [.int t0]) := by
  obtain ⟨hX, hr, hlk, hK, hE⟩ := id C0
  have hx := hX.1
  have hb := hX.2.1
  have hown := hX.2.2.2.1
  have hts := hX.2.2.2.2
  intro v2 t0 H locs ls hq hH hl
  unfold v_X6_reach_35 at hq
  refine lv_iconst (v := 1) hx hb dX6_reach_35 (by decide) ?_
  refine lv_iload_n hx hb dX6_reach_36 rfl (lv_at hl 1 rfl) ?_
  refine lv_ishl hx hb dX6_reach_37 ?_
  refine lv_goto (tgt := 42) hx hb dX6_reach_38 (by decide) ?_
  exact s_X6_reach_42  C0 hK4 v2 ((1 : Int32) <<< (v2 &&& 31)) t0 _ _ _ hq hH (lv_sub hl [0, 1] rfl)
set_option maxRecDepth 100000 in
set_option maxHeartbeats 4000000 in
theorem s_X6_reach_4 {I : wI} {Q : Int32 → Prop} (C0 : wCx p m c s args meth cX6_reach 3 RX6 (some .int) D cs ad b) : ∀ (f : Nat) (v1 : Int32) (v2 : Int32) (H : Heap) (locs : List Loc) (ls : Array Slot), v_X6_reach_4 I Q f v1 v2 → wH D cs b G I s H locs → lv_has ls 3 [(0, .ref (b + 111)), (1, .int v1), (2, .int v2)] → W p l e rm_X6_reach s m args below meth c H locs 0 0 (MQ below (va_Qi (fun r I' => I' = I ∧ Q r) (wPo D cs b G) (fun q => b ≤ q)) args s 0 0 (fun q => b ≤ q)) (F0 m 4 ls []) := by
  obtain ⟨hX, hr, hlk, hK, hE⟩ := id C0
  have hx := hX.1
  have hb := hX.2.1
  have hown := hX.2.2.2.1
  have hts := hX.2.2.2.2
  intro f
  induction f with
  | zero =>
    intro v1 v2 H locs ls hq
    exact hq.elim
  | succ f hK4 =>
    intro v1 v2 H locs ls hq hH hl
    have hq : g_X6_reach_4 I Q (v_X6_reach_4 I Q f) v1 v2 := hq
    unfold g_X6_reach_4 at hq
    refine lv_iload_n hx hb dX6_reach_4 rfl (lv_at hl 2 rfl) ?_
    refine lv_bipush (v := 6) hx hb dX6_reach_5 (by decide) ?_
    refine lv_icmp_ge (tgt := 50) hx hb dX6_reach_7 (by decide) (fun hc => ?_) (fun hc => ?_)
    · have hq := hq.1 hc
      refine lv_iload_n hx hb dX6_reach_50 rfl (lv_at hl 1 rfl) ?_
      exact w_eI hX hr hlk hH ⟨rfl, hq⟩ dX6_reach_51
    · have hq := hq.2 hc
      refine lv_iload_n hx hb dX6_reach_10 rfl (lv_at hl 1 rfl) ?_
      refine lv_aload_n hx hb dX6_reach_11 rfl (lv_at hl 0 rfl) ?_
      refine w_getr hX hK hH ck6 sh111 1 1 112 fr6_1 rfl q4_74 dX6_reach_12 ?_
      refine lv_iconst (v := 0) hx hb dX6_reach_15 (by decide) ?_
      refine lv_iload_n hx hb dX6_reach_16 rfl (lv_at hl 2 rfl) ?_
      refine lv_iadd hx hb dX6_reach_17 ?_
      obtain ⟨hc, hq⟩ := hq
      refine w_iald hX hK hH (sf6_1 sh111) hc dX6_reach_18 ?_
      refine lv_iload_n hx hb dX6_reach_19 rfl (lv_at hl 2 rfl) ?_
      refine lv_icmp_ne (tgt := 35) hx hb dX6_reach_20 (by decide) (fun hc => ?_) (fun hc => ?_)
      · have hq := hq.1 hc
        exact s_X6_reach_35  C0 hK4 v2 v1 _ _ _ hq hH (lv_sub hl [0, 2] rfl)
      · have hq := hq.2 hc
        refine lv_aload_n hx hb dX6_reach_23 rfl (lv_at hl 0 rfl) ?_
        refine w_getr hX hK hH ck6 sh111 1 1 112 fr6_1 rfl q4_74 dX6_reach_24 ?_
        refine lv_bipush (v := 6) hx hb dX6_reach_27 (by decide) ?_
        refine lv_iload_n hx hb dX6_reach_29 rfl (lv_at hl 2 rfl) ?_
        refine lv_iadd hx hb dX6_reach_30 ?_
        obtain ⟨hc, hq⟩ := hq
        refine w_iald hX hK hH (sf6_1 sh111) hc dX6_reach_31 ?_
        refine lv_if_eq (tgt := 41) hx hb dX6_reach_32 (by decide) (fun hc => ?_) (fun hc => ?_)
        · have hq := hq.1 hc
          refine lv_iconst (v := 0) hx hb dX6_reach_41 (by decide) ?_
          exact s_X6_reach_42  C0 hK4 v2 (0 : Int32) v1 _ _ _ hq hH (lv_sub hl [0, 2] rfl)
        · have hq := hq.2 hc
          exact s_X6_reach_35  C0 hK4 v2 v1 _ _ _ hq hH (lv_sub hl [0, 2] rfl)
set_option maxRecDepth 100000 in
set_option maxHeartbeats 4000000 in
theorem c_X6_reach {l : Launch} {D : va_G} {cs : wC4} {ad : Nat → Nat} {b : Nat} {G : wG}  (I : wI) (hp : pre_X6_reach  I) : Met l yX6_reach (ws_ yX6_reach cX6_reach 3 (some .int)) rm_X6_reach (va_Pc [.ref (b + 111)] (wPr D cs ad b G I)) (va_Qi (fun r I' => I' = I ∧ post_X6_reach  I r) (wPo D cs b G) (fun q => b ≤ q)) 0 0 (fun q => b ≤ q) := by
  have hq := vc_X6_reach  I hp
  refine w_met (by decide) (Nat.le_of_ble_eq_true rfl) ?_
  intro p e s m below meth c hX hr hlk hK hE hH ls hl
  have C0 : wCx p m c s _ meth cX6_reach 3 RX6 (some .int) D cs ad b := ⟨hX, hr, hlk, hK, hE⟩
  have hX : CallFix p m c cX6_reach 3 s _ lw_all RX6 := hX
  have hx := hX.1
  have hb := hX.2.1
  have hown := hX.2.2.2.1
  have hts := hX.2.2.2.2
  have hl : lv_has ls 3 [(0, .ref (b + 111))] := hl
  unfold v_X6_reach at hq
  refine lv_iconst (v := 0) hx hb dX6_reach_0 (by decide) ?_
  refine lv_istore_n (lv' := [(1, .int (0 : Int32)), (0, .ref (b + 111))]) hx hb dX6_reach_1 rfl hl (by decide) rfl (fun ls hl => ?_)
  refine lv_iconst (v := 0) hx hb dX6_reach_2 (by decide) ?_
  refine lv_istore_n (lv' := [(2, .int (0 : Int32)), (1, .int (0 : Int32)), (0, .ref (b + 111))]) hx hb dX6_reach_3 rfl hl (by decide) rfl (fun ls hl => ?_)
  obtain ⟨f, hq⟩ := hq
  exact s_X6_reach_4  C0  f (0 : Int32) (0 : Int32) _ _ _ hq hH (lv_sub hl [2, 1, 0] rfl)
abbrev rm_X6_common : Room := { frames := 0, cells := 0, slots := 0, locals := 0 }
theorem hd_X6_common : yX6_common.cls = RX6 ∧ yX6_common.cls ≠ "java/lang/invoke/MethodHandle" ∧ yX6_common.cls ≠ "java/lang/invoke/VarHandle" ∧ (parseMethodDescriptor yX6_common.desc).map (fun d => d.parameters.length) = some 2 := by decide +kernel
set_option maxRecDepth 100000 in
set_option maxHeartbeats 4000000 in
theorem s_X6_common_4 {x0 : Int32} {x1 : Int32} {I : wI} {Q : Int32 → Prop} (C0 : wCx p m c s args meth cX6_common 5 RX6 (some .int) D cs ad b) : ∀ (f : Nat) (v2 : Int32) (v3 : Int32) (H : Heap) (locs : List Loc) (ls : Array Slot), v_X6_common_4 x0 x1 I Q f v2 v3 → wH D cs b G I s H locs → lv_has ls 5 [(2, .int v2), (3, .int v3)] → W p l e rm_X6_common s m args below meth c H locs 0 0 (MQ below (va_Qi (fun r I' => I' = I ∧ Q r) (wPo D cs b G) (fun q => b ≤ q)) args s 0 0 (fun q => b ≤ q)) (F0 m 4 ls []) := by
  obtain ⟨hX, hr, hlk, hK, hE⟩ := id C0
  have hx := hX.1
  have hb := hX.2.1
  have hown := hX.2.2.2.1
  have hts := hX.2.2.2.2
  intro f
  induction f with
  | zero =>
    intro v2 v3 H locs ls hq
    exact hq.elim
  | succ f hK4 =>
    intro v2 v3 H locs ls hq hH hl
    have hq : g_X6_common_4 x0 x1 I Q (v_X6_common_4 x0 x1 I Q f) v2 v3 := hq
    unfold g_X6_common_4 at hq
    refine lv_iload_n hx hb dX6_common_4 rfl (lv_at hl 1 rfl) ?_
    refine lv_if_le (tgt := 21) hx hb dX6_common_5 (by decide) (fun hc => ?_) (fun hc => ?_)
    · have hq := hq.1 hc
      refine lv_iload_n hx hb dX6_common_21 rfl (lv_at hl 0 rfl) ?_
      exact w_eI hX hr hlk hH ⟨rfl, hq⟩ dX6_common_22
    · have hq := hq.2 hc
      refine lv_iload_n hx hb dX6_common_8 rfl (lv_at hl 0 rfl) ?_
      refine lv_iload_n hx hb dX6_common_9 rfl (lv_at hl 1 rfl) ?_
      obtain ⟨hc, hq⟩ := hq
      refine lv_irem hx hb dX6_common_10 hc ?_
      refine lv_istore (lv' := [(4, .int (v2 - v2 / v3 * v3)), (2, .int v2), (3, .int v3)]) hx hb dX6_common_11 hl (by decide) rfl (fun ls hl => ?_)
      refine lv_iload_n hx hb dX6_common_13 rfl (lv_at hl 2 rfl) ?_
      refine lv_istore_n (lv' := [(2, .int v3), (4, .int (v2 - v2 / v3 * v3)), (3, .int v3)]) hx hb dX6_common_14 rfl hl (by decide) rfl (fun ls hl => ?_)
      refine lv_iload hx hb dX6_common_15 (lv_at hl 1 rfl) ?_
      refine lv_istore_n (lv' := [(3, .int (v2 - v2 / v3 * v3)), (2, .int v3), (4, .int (v2 - v2 / v3 * v3))]) hx hb dX6_common_17 rfl hl (by decide) rfl (fun ls hl => ?_)
      refine lv_goto (tgt := 4) hx hb dX6_common_18 (by decide) ?_
      exact hK4 v3 (v2 - v2 / v3 * v3) _ _ _ hq hH (lv_sub hl [1, 0] rfl)
set_option maxRecDepth 100000 in
set_option maxHeartbeats 4000000 in
theorem c_X6_common {l : Launch} {D : va_G} {cs : wC4} {ad : Nat → Nat} {b : Nat} {G : wG} (x0 : Int32) (x1 : Int32) (I : wI) (hp : pre_X6_common x0 x1 I) : Met l yX6_common (ws_ yX6_common cX6_common 5 (some .int)) rm_X6_common (va_Pc [.int x0, .int x1] (wPr D cs ad b G I)) (va_Qi (fun r I' => I' = I ∧ post_X6_common x0 x1 I r) (wPo D cs b G) (fun q => b ≤ q)) 0 0 (fun q => b ≤ q) := by
  have hq := vc_X6_common x0 x1 I hp
  refine w_met (by decide) (Nat.le_of_ble_eq_true rfl) ?_
  intro p e s m below meth c hX hr hlk hK hE hH ls hl
  have C0 : wCx p m c s _ meth cX6_common 5 RX6 (some .int) D cs ad b := ⟨hX, hr, hlk, hK, hE⟩
  have hX : CallFix p m c cX6_common 5 s _ lw_all RX6 := hX
  have hx := hX.1
  have hb := hX.2.1
  have hown := hX.2.2.2.1
  have hts := hX.2.2.2.2
  have hl : lv_has ls 5 [(0, .int x0), (1, .int x1)] := hl
  unfold v_X6_common at hq
  refine lv_iload_n hx hb dX6_common_0 rfl (lv_at hl 0 rfl) ?_
  refine lv_istore_n (lv' := [(2, .int x0), (0, .int x0), (1, .int x1)]) hx hb dX6_common_1 rfl hl (by decide) rfl (fun ls hl => ?_)
  refine lv_iload_n hx hb dX6_common_2 rfl (lv_at hl 2 rfl) ?_
  refine lv_istore_n (lv' := [(3, .int x1), (2, .int x0), (0, .int x0), (1, .int x1)]) hx hb dX6_common_3 rfl hl (by decide) rfl (fun ls hl => ?_)
  obtain ⟨f, hq⟩ := hq
  exact s_X6_common_4  C0  f x0 x1 _ _ _ hq hH (lv_sub hl [1, 0] rfl)
abbrev rm_X6_period : Room := { frames := 1, cells := 0, slots := 0, locals := 24 }
theorem hd_X6_period : yX6_period.cls = RX6 ∧ yX6_period.cls ≠ "java/lang/invoke/MethodHandle" ∧ yX6_period.cls ≠ "java/lang/invoke/VarHandle" ∧ (parseMethodDescriptor yX6_period.desc).map (fun d => d.parameters.length) = some 0 := by decide +kernel
set_option maxRecDepth 100000 in
set_option maxHeartbeats 4000000 in
theorem s_X6_period_101 {I : wI} {Q : Int32 → Prop} {K4 : Int32 → Int32 → Prop} (C0 : wCx p m c s args meth cX6_period 8 RX6 (some .int) D cs ad b) (hK4 : ∀ (v1 : Int32) (v2 : Int32) (H : Heap) (locs : List Loc) (ls : Array Slot), K4 v1 v2 → wH D cs b G I s H locs → lv_has ls 8 [(0, .ref (b + 111)), (1, .int v1), (2, .int v2)] → W p l e rm_X6_period s m args below meth c H locs 0 0 (MQ below (va_Qi (fun r I' => I' = I ∧ Q r) (wPo D cs b G) (fun q => b ≤ q)) args s 0 0 (fun q => b ≤ q)) (F0 m 4 ls [])) : ∀ (v1 : Int32) (v2 : Int32) (t0 : Int32) (H : Heap) (locs : List Loc) (ls : Array Slot), v_X6_period_101 I Q K4 v1 v2 t0 → wH D cs b G I s H locs → lv_has ls 8 [(0, .ref (b + 111)), (1, .int v1), (2, .int v2)] → W p l e rm_X6_period s m args below meth c H locs 0 0 (MQ below (va_Qi (fun r I' => I' = I ∧ Q r) (wPo D cs b G) (fun q => b ≤ q)) args s 0 0 (fun q => b ≤ q)) (F0 m 101 ls [.int t0]) := by
  obtain ⟨hX, hr, hlk, hK, hE⟩ := id C0
  have hx := hX.1
  have hb := hX.2.1
  have hown := hX.2.2.2.1
  have hts := hX.2.2.2.2
  intro v1 v2 t0 H locs ls hq hH hl
  unfold v_X6_period_101 at hq
  refine lv_istore (lv' := [(7, .int t0), (0, .ref (b + 111)), (1, .int v1), (2, .int v2)]) hx hb dX6_period_101 hl (by decide) rfl (fun ls hl => ?_)
  refine lv_iload_n hx hb dX6_period_103 rfl (lv_at hl 2 rfl) ?_
  refine lv_iload_n hx hb dX6_period_104 rfl (lv_at hl 2 rfl) ?_
  refine lv_iload hx hb dX6_period_105 (lv_at hl 0 rfl) ?_
  obtain ⟨hp, hq⟩ := hq
  refine w_cIp hH (w_rS (As := [.int v1, .int t0]) (rest := [.int v1]) hX hK hE hH (c_X6_common  _ _ _ hp) q5_77 q5_78 q1_7 q5_79 hd_X6_common.2 ⟨Nat.le_of_ble_eq_true rfl, Nat.le_of_ble_eq_true rfl⟩ ⟨rfl, rfl⟩ rfl hl.1 rfl (Nat.le_of_ble_eq_true rfl) dX6_period_107 ⟨Nat.zero_le _, Nat.zero_le _⟩) (fun r1  H locs hpo hH => ?_)
  have hq := hq r1  hpo
  obtain ⟨hc, hq⟩ := hq
  refine lv_idiv hx hb dX6_period_110 hc ?_
  refine lv_iload hx hb dX6_period_111 (lv_at hl 0 rfl) ?_
  refine lv_imul hx hb dX6_period_113 ?_
  refine lv_istore_n (lv' := [(1, .int ((v1 / r1) * t0)), (7, .int t0), (0, .ref (b + 111)), (2, .int v2)]) hx hb dX6_period_114 rfl hl (by decide) rfl (fun ls hl => ?_)
  refine lv_iinc (v := (v2 + (1 : Int32))) (lv' := [(2, .int (v2 + (1 : Int32))), (1, .int ((v1 / r1) * t0)), (7, .int t0), (0, .ref (b + 111))]) hx hb dX6_period_115 hl (k := 3) rfl rfl (by decide) rfl (fun ls hl => ?_)
  refine lv_goto (tgt := 4) hx hb dX6_period_118 (by decide) ?_
  exact hK4 ((v1 / r1) * t0) (v2 + (1 : Int32)) _ _ _ hq hH (lv_sub hl [3, 1, 0] rfl)
set_option maxRecDepth 100000 in
set_option maxHeartbeats 4000000 in
theorem s_X6_period_82 {I : wI} {Q : Int32 → Prop} {K4 : Int32 → Int32 → Prop} {K21 : Int32 → Int32 → Int32 → Int32 → Int32 → Int32 → Prop} (C0 : wCx p m c s args meth cX6_period 8 RX6 (some .int) D cs ad b) (hK4 : ∀ (v1 : Int32) (v2 : Int32) (H : Heap) (locs : List Loc) (ls : Array Slot), K4 v1 v2 → wH D cs b G I s H locs → lv_has ls 8 [(0, .ref (b + 111)), (1, .int v1), (2, .int v2)] → W p l e rm_X6_period s m args below meth c H locs 0 0 (MQ below (va_Qi (fun r I' => I' = I ∧ Q r) (wPo D cs b G) (fun q => b ≤ q)) args s 0 0 (fun q => b ≤ q)) (F0 m 4 ls [])) (hK21 : ∀ (v1 : Int32) (v2 : Int32) (v3 : Int32) (v4 : Int32) (v5 : Int32) (v6 : Int32) (H : Heap) (locs : List Loc) (ls : Array Slot), K21 v1 v2 v3 v4 v5 v6 → wH D cs b G I s H locs → lv_has ls 8 [(0, .ref (b + 111)), (1, .int v1), (2, .int v2), (3, .int v3), (4, .int v4), (5, .int v5), (6, .int v6)] → W p l e rm_X6_period s m args below meth c H locs 0 0 (MQ below (va_Qi (fun r I' => I' = I ∧ Q r) (wPo D cs b G) (fun q => b ≤ q)) args s 0 0 (fun q => b ≤ q)) (F0 m 21 ls [])) : ∀ (v1 : Int32) (v2 : Int32) (v3 : Int32) (v4 : Int32) (v5 : Int32) (t0 : Int32) (H : Heap) (locs : List Loc) (ls : Array Slot), v_X6_period_82 I Q K4 K21 v1 v2 v3 v4 v5 t0 → wH D cs b G I s H locs → lv_has ls 8 [(0, .ref (b + 111)), (1, .int v1), (2, .int v2), (3, .int v3), (4, .int v4), (5, .int v5)] → W p l e rm_X6_period s m args below meth c H locs 0 0 (MQ below (va_Qi (fun r I' => I' = I ∧ Q r) (wPo D cs b G) (fun q => b ≤ q)) args s 0 0 (fun q => b ≤ q)) (F0 m 82 ls [.int t0]) := by
  obtain ⟨hX, hr, hlk, hK, hE⟩ := id C0
  have hx := hX.1
  have hb := hX.2.1
  have hown := hX.2.2.2.1
  have hts := hX.2.2.2.2
  intro v1 v2 v3 v4 v5 t0 H locs ls hq hH hl
  unfold v_X6_period_82 at hq
  refine lv_istore (lv' := [(6, .int t0), (0, .ref (b + 111)), (1, .int v1), (2, .int v2), (3, .int v3), (4, .int v4), (5, .int v5)]) hx hb dX6_period_82 hl (by decide) rfl (fun ls hl => ?_)
  refine lv_goto (tgt := 21) hx hb dX6_period_84 (by decide) ?_
  exact hK21 v1 v2 v3 v4 v5 t0 _ _ _ hq hH (lv_sub hl [1, 2, 3, 4, 5, 6, 0] rfl)
set_option maxRecDepth 100000 in
set_option maxHeartbeats 4000000 in
theorem s_X6_period_29 {I : wI} {Q : Int32 → Prop} {K4 : Int32 → Int32 → Prop} {K21 : Int32 → Int32 → Int32 → Int32 → Int32 → Int32 → Prop} (C0 : wCx p m c s args meth cX6_period 8 RX6 (some .int) D cs ad b) (hK4 : ∀ (v1 : Int32) (v2 : Int32) (H : Heap) (locs : List Loc) (ls : Array Slot), K4 v1 v2 → wH D cs b G I s H locs → lv_has ls 8 [(0, .ref (b + 111)), (1, .int v1), (2, .int v2)] → W p l e rm_X6_period s m args below meth c H locs 0 0 (MQ below (va_Qi (fun r I' => I' = I ∧ Q r) (wPo D cs b G) (fun q => b ≤ q)) args s 0 0 (fun q => b ≤ q)) (F0 m 4 ls [])) (hK21 : ∀ (v1 : Int32) (v2 : Int32) (v3 : Int32) (v4 : Int32) (v5 : Int32) (v6 : Int32) (H : Heap) (locs : List Loc) (ls : Array Slot), K21 v1 v2 v3 v4 v5 v6 → wH D cs b G I s H locs → lv_has ls 8 [(0, .ref (b + 111)), (1, .int v1), (2, .int v2), (3, .int v3), (4, .int v4), (5, .int v5), (6, .int v6)] → W p l e rm_X6_period s m args below meth c H locs 0 0 (MQ below (va_Qi (fun r I' => I' = I ∧ Q r) (wPo D cs b G) (fun q => b ≤ q)) args s 0 0 (fun q => b ≤ q)) (F0 m 21 ls [])) : ∀ (f : Nat) (v1 : Int32) (v2 : Int32) (v3 : Int32) (v4 : Int32) (v5 : Int32) (v7 : Int32) (H : Heap) (locs : List Loc) (ls : Array Slot), v_X6_period_29 I Q K4 K21 f v1 v2 v3 v4 v5 v7 → wH D cs b G I s H locs → lv_has ls 8 [(0, .ref (b + 111)), (1, .int v1), (2, .int v2), (3, .int v3), (4, .int v4), (5, .int v5), (7, .int v7)] → W p l e rm_X6_period s m args below meth c H locs 0 0 (MQ below (va_Qi (fun r I' => I' = I ∧ Q r) (wPo D cs b G) (fun q => b ≤ q)) args s 0 0 (fun q => b ≤ q)) (F0 m 29 ls []) := by
  obtain ⟨hX, hr, hlk, hK, hE⟩ := id C0
  have hx := hX.1
  have hb := hX.2.1
  have hown := hX.2.2.2.1
  have hts := hX.2.2.2.2
  intro f
  induction f with
  | zero =>
    intro v1 v2 v3 v4 v5 v7 H locs ls hq
    exact hq.elim
  | succ f hK29 =>
    intro v1 v2 v3 v4 v5 v7 H locs ls hq hH hl
    have hq : g_X6_period_29 I Q K4 K21 (v_X6_period_29 I Q K4 K21 f) v1 v2 v3 v4 v5 v7 := hq
    unfold g_X6_period_29 at hq
    refine lv_aload_n hx hb dX6_period_29 rfl (lv_at hl 0 rfl) ?_
    refine w_getr hX hK hH ck6 sh111 1 1 112 fr6_1 rfl q4_74 dX6_period_30 ?_
    refine lv_iconst (v := 0) hx hb dX6_period_33 (by decide) ?_
    refine lv_iload hx hb dX6_period_34 (lv_at hl 6 rfl) ?_
    refine lv_iadd hx hb dX6_period_36 ?_
    obtain ⟨hc, hq⟩ := hq
    refine w_iald hX hK hH (sf6_1 sh111) hc dX6_period_37 ?_
    refine lv_iload hx hb dX6_period_38 (lv_at hl 5 rfl) ?_
    refine lv_icmp_eq (tgt := 49) hx hb dX6_period_40 (by decide) (fun hc => ?_) (fun hc => ?_)
    · have hq := hq.1 hc
      refine lv_iinc (v := (v3 + (1 : Int32))) (lv' := [(3, .int (v3 + (1 : Int32))), (0, .ref (b + 111)), (1, .int v1), (2, .int v2), (4, .int v4), (5, .int v5), (7, .int v7)]) hx hb dX6_period_49 hl (k := 3) rfl rfl (by decide) rfl (fun ls hl => ?_)
      refine lv_iload hx hb dX6_period_52 (lv_at hl 4 rfl) ?_
      refine lv_aload_n hx hb dX6_period_54 rfl (lv_at hl 1 rfl) ?_
      refine w_getr hX hK hH ck6 sh111 1 1 112 fr6_1 rfl q4_74 dX6_period_55 ?_
      refine lv_bipush (v := 6) hx hb dX6_period_58 (by decide) ?_
      refine lv_iload hx hb dX6_period_60 (lv_at hl 6 rfl) ?_
      refine lv_iadd hx hb dX6_period_62 ?_
      obtain ⟨hc, hq⟩ := hq
      refine w_iald hX hK hH (sf6_1 sh111) hc dX6_period_63 ?_
      refine lv_iadd hx hb dX6_period_64 ?_
      refine lv_istore (lv' := [(4, .int (v4 + (I 112 (((6 : Int32) + v7)).toNatClampNeg))), (3, .int (v3 + (1 : Int32))), (0, .ref (b + 111)), (1, .int v1), (2, .int v2), (5, .int v5), (7, .int v7)]) hx hb dX6_period_65 hl (by decide) rfl (fun ls hl => ?_)
      refine lv_iload hx hb dX6_period_67 (lv_at hl 6 rfl) ?_
      refine lv_istore (lv' := [(5, .int v7), (4, .int (v4 + (I 112 (((6 : Int32) + v7)).toNatClampNeg))), (3, .int (v3 + (1 : Int32))), (0, .ref (b + 111)), (1, .int v1), (2, .int v2), (7, .int v7)]) hx hb dX6_period_69 hl (by decide) rfl (fun ls hl => ?_)
      refine lv_iload hx hb dX6_period_71 (lv_at hl 0 rfl) ?_
      refine lv_iload_n hx hb dX6_period_73 rfl (lv_at hl 5 rfl) ?_
      refine lv_icmp_eq (tgt := 81) hx hb dX6_period_74 (by decide) (fun hc => ?_) (fun hc => ?_)
      · have hq := hq.1 hc
        refine lv_iconst (v := 0) hx hb dX6_period_81 (by decide) ?_
        exact s_X6_period_82  C0 hK4 hK21 v1 v2 (v3 + (1 : Int32)) (v4 + (I 112 (((6 : Int32) + v7)).toNatClampNeg)) v7 (0 : Int32) _ _ _ hq hH (lv_sub hl [3, 4, 5, 2, 1, 0] rfl)
      · have hq := hq.2 hc
        refine lv_iconst (v := 1) hx hb dX6_period_77 (by decide) ?_
        refine lv_goto (tgt := 82) hx hb dX6_period_78 (by decide) ?_
        exact s_X6_period_82  C0 hK4 hK21 v1 v2 (v3 + (1 : Int32)) (v4 + (I 112 (((6 : Int32) + v7)).toNatClampNeg)) v7 (1 : Int32) _ _ _ hq hH (lv_sub hl [3, 4, 5, 2, 1, 0] rfl)
    · have hq := hq.2 hc
      refine lv_iinc (v := (v7 + (1 : Int32))) (lv' := [(7, .int (v7 + (1 : Int32))), (0, .ref (b + 111)), (1, .int v1), (2, .int v2), (3, .int v3), (4, .int v4), (5, .int v5)]) hx hb dX6_period_43 hl (k := 6) rfl rfl (by decide) rfl (fun ls hl => ?_)
      refine lv_goto (tgt := 29) hx hb dX6_period_46 (by decide) ?_
      exact hK29 v1 v2 v3 v4 v5 (v7 + (1 : Int32)) _ _ _ hq hH (lv_sub hl [1, 2, 3, 4, 5, 6, 0] rfl)
set_option maxRecDepth 100000 in
set_option maxHeartbeats 4000000 in
theorem s_X6_period_21 {I : wI} {Q : Int32 → Prop} {K4 : Int32 → Int32 → Prop} (C0 : wCx p m c s args meth cX6_period 8 RX6 (some .int) D cs ad b) (hK4 : ∀ (v1 : Int32) (v2 : Int32) (H : Heap) (locs : List Loc) (ls : Array Slot), K4 v1 v2 → wH D cs b G I s H locs → lv_has ls 8 [(0, .ref (b + 111)), (1, .int v1), (2, .int v2)] → W p l e rm_X6_period s m args below meth c H locs 0 0 (MQ below (va_Qi (fun r I' => I' = I ∧ Q r) (wPo D cs b G) (fun q => b ≤ q)) args s 0 0 (fun q => b ≤ q)) (F0 m 4 ls [])) : ∀ (f : Nat) (v1 : Int32) (v2 : Int32) (v3 : Int32) (v4 : Int32) (v5 : Int32) (v6 : Int32) (H : Heap) (locs : List Loc) (ls : Array Slot), v_X6_period_21 I Q K4 f v1 v2 v3 v4 v5 v6 → wH D cs b G I s H locs → lv_has ls 8 [(0, .ref (b + 111)), (1, .int v1), (2, .int v2), (3, .int v3), (4, .int v4), (5, .int v5), (6, .int v6)] → W p l e rm_X6_period s m args below meth c H locs 0 0 (MQ below (va_Qi (fun r I' => I' = I ∧ Q r) (wPo D cs b G) (fun q => b ≤ q)) args s 0 0 (fun q => b ≤ q)) (F0 m 21 ls []) := by
  obtain ⟨hX, hr, hlk, hK, hE⟩ := id C0
  have hx := hX.1
  have hb := hX.2.1
  have hown := hX.2.2.2.1
  have hts := hX.2.2.2.2
  intro f
  induction f with
  | zero =>
    intro v1 v2 v3 v4 v5 v6 H locs ls hq
    exact hq.elim
  | succ f hK21 =>
    intro v1 v2 v3 v4 v5 v6 H locs ls hq hH hl
    have hq : g_X6_period_21 I Q K4 (v_X6_period_21 I Q K4 f) v1 v2 v3 v4 v5 v6 := hq
    unfold g_X6_period_21 at hq
    refine lv_iload hx hb dX6_period_21 (lv_at hl 6 rfl) ?_
    refine lv_if_eq (tgt := 87) hx hb dX6_period_23 (by decide) (fun hc => ?_) (fun hc => ?_)
    · have hq := hq.1 hc
      refine lv_iload hx hb dX6_period_87 (lv_at hl 4 rfl) ?_
      refine lv_iconst (v := 5) hx hb dX6_period_89 (by decide) ?_
      refine lv_irem hx hb dX6_period_90 (by decide) ?_
      refine lv_if_ne (tgt := 98) hx hb dX6_period_91 (by decide) (fun hc => ?_) (fun hc => ?_)
      · have hq := hq.1 hc
        refine lv_iconst (v := 5) hx hb dX6_period_98 (by decide) ?_
        refine lv_iload_n hx hb dX6_period_99 rfl (lv_at hl 3 rfl) ?_
        refine lv_imul hx hb dX6_period_100 ?_
        exact s_X6_period_101  C0 hK4 v1 v2 ((5 : Int32) * v3) _ _ _ hq hH (lv_sub hl [0, 1, 2] rfl)
      · have hq := hq.2 hc
        refine lv_iload_n hx hb dX6_period_94 rfl (lv_at hl 3 rfl) ?_
        refine lv_goto (tgt := 101) hx hb dX6_period_95 (by decide) ?_
        exact s_X6_period_101  C0 hK4 v1 v2 v3 _ _ _ hq hH (lv_sub hl [0, 1, 2] rfl)
    · have hq := hq.2 hc
      refine lv_iconst (v := 0) hx hb dX6_period_26 (by decide) ?_
      refine lv_istore (lv' := [(7, .int (0 : Int32)), (0, .ref (b + 111)), (1, .int v1), (2, .int v2), (3, .int v3), (4, .int v4), (5, .int v5), (6, .int v6)]) hx hb dX6_period_27 hl (by decide) rfl (fun ls hl => ?_)
      obtain ⟨f, hq⟩ := hq
      exact s_X6_period_29  C0 hK4 hK21 f v1 v2 v3 v4 v5 (0 : Int32) _ _ _ hq hH (lv_sub hl [1, 2, 3, 4, 5, 6, 0] rfl)
set_option maxRecDepth 100000 in
set_option maxHeartbeats 4000000 in
theorem s_X6_period_4 {I : wI} {Q : Int32 → Prop} (C0 : wCx p m c s args meth cX6_period 8 RX6 (some .int) D cs ad b) : ∀ (f : Nat) (v1 : Int32) (v2 : Int32) (H : Heap) (locs : List Loc) (ls : Array Slot), v_X6_period_4 I Q f v1 v2 → wH D cs b G I s H locs → lv_has ls 8 [(0, .ref (b + 111)), (1, .int v1), (2, .int v2)] → W p l e rm_X6_period s m args below meth c H locs 0 0 (MQ below (va_Qi (fun r I' => I' = I ∧ Q r) (wPo D cs b G) (fun q => b ≤ q)) args s 0 0 (fun q => b ≤ q)) (F0 m 4 ls []) := by
  obtain ⟨hX, hr, hlk, hK, hE⟩ := id C0
  have hx := hX.1
  have hb := hX.2.1
  have hown := hX.2.2.2.1
  have hts := hX.2.2.2.2
  intro f
  induction f with
  | zero =>
    intro v1 v2 H locs ls hq
    exact hq.elim
  | succ f hK4 =>
    intro v1 v2 H locs ls hq hH hl
    have hq : g_X6_period_4 I Q (v_X6_period_4 I Q f) v1 v2 := hq
    unfold g_X6_period_4 at hq
    refine lv_iload_n hx hb dX6_period_4 rfl (lv_at hl 2 rfl) ?_
    refine lv_bipush (v := 6) hx hb dX6_period_5 (by decide) ?_
    refine lv_icmp_ge (tgt := 121) hx hb dX6_period_7 (by decide) (fun hc => ?_) (fun hc => ?_)
    · have hq := hq.1 hc
      refine lv_iload_n hx hb dX6_period_121 rfl (lv_at hl 1 rfl) ?_
      exact w_eI hX hr hlk hH ⟨rfl, hq⟩ dX6_period_122
    · have hq := hq.2 hc
      refine lv_iconst (v := 0) hx hb dX6_period_10 (by decide) ?_
      refine lv_istore_n (lv' := [(3, .int (0 : Int32)), (0, .ref (b + 111)), (1, .int v1), (2, .int v2)]) hx hb dX6_period_11 rfl hl (by decide) rfl (fun ls hl => ?_)
      refine lv_iconst (v := 0) hx hb dX6_period_12 (by decide) ?_
      refine lv_istore (lv' := [(4, .int (0 : Int32)), (3, .int (0 : Int32)), (0, .ref (b + 111)), (1, .int v1), (2, .int v2)]) hx hb dX6_period_13 hl (by decide) rfl (fun ls hl => ?_)
      refine lv_iload_n hx hb dX6_period_15 rfl (lv_at hl 4 rfl) ?_
      refine lv_istore (lv' := [(5, .int v2), (4, .int (0 : Int32)), (3, .int (0 : Int32)), (0, .ref (b + 111)), (1, .int v1), (2, .int v2)]) hx hb dX6_period_16 hl (by decide) rfl (fun ls hl => ?_)
      refine lv_iconst (v := 1) hx hb dX6_period_18 (by decide) ?_
      refine lv_istore (lv' := [(6, .int (1 : Int32)), (5, .int v2), (4, .int (0 : Int32)), (3, .int (0 : Int32)), (0, .ref (b + 111)), (1, .int v1), (2, .int v2)]) hx hb dX6_period_19 hl (by decide) rfl (fun ls hl => ?_)
      obtain ⟨f, hq⟩ := hq
      exact s_X6_period_21  C0 hK4 f v1 v2 (0 : Int32) (0 : Int32) v2 (1 : Int32) _ _ _ hq hH (lv_sub hl [4, 5, 6, 3, 2, 1, 0] rfl)
set_option maxRecDepth 100000 in
set_option maxHeartbeats 4000000 in
theorem c_X6_period {l : Launch} {D : va_G} {cs : wC4} {ad : Nat → Nat} {b : Nat} {G : wG}  (I : wI) (hp : pre_X6_period  I) : Met l yX6_period (ws_ yX6_period cX6_period 8 (some .int)) rm_X6_period (va_Pc [.ref (b + 111)] (wPr D cs ad b G I)) (va_Qi (fun r I' => I' = I ∧ post_X6_period  I r) (wPo D cs b G) (fun q => b ≤ q)) 0 0 (fun q => b ≤ q) := by
  have hq := vc_X6_period  I hp
  refine w_met (by decide) (Nat.le_of_ble_eq_true rfl) ?_
  intro p e s m below meth c hX hr hlk hK hE hH ls hl
  have C0 : wCx p m c s _ meth cX6_period 8 RX6 (some .int) D cs ad b := ⟨hX, hr, hlk, hK, hE⟩
  have hX : CallFix p m c cX6_period 8 s _ lw_all RX6 := hX
  have hx := hX.1
  have hb := hX.2.1
  have hown := hX.2.2.2.1
  have hts := hX.2.2.2.2
  have hl : lv_has ls 8 [(0, .ref (b + 111))] := hl
  unfold v_X6_period at hq
  refine lv_iconst (v := 1) hx hb dX6_period_0 (by decide) ?_
  refine lv_istore_n (lv' := [(1, .int (1 : Int32)), (0, .ref (b + 111))]) hx hb dX6_period_1 rfl hl (by decide) rfl (fun ls hl => ?_)
  refine lv_iconst (v := 0) hx hb dX6_period_2 (by decide) ?_
  refine lv_istore_n (lv' := [(2, .int (0 : Int32)), (1, .int (1 : Int32)), (0, .ref (b + 111))]) hx hb dX6_period_3 rfl hl (by decide) rfl (fun ls hl => ?_)
  obtain ⟨f, hq⟩ := hq
  exact s_X6_period_4  C0  f (1 : Int32) (0 : Int32) _ _ _ hq hH (lv_sub hl [2, 1, 0] rfl)
abbrev rm_X6_keyPeriod : Room := { frames := 3, cells := 0, slots := 0, locals := 72 }
theorem hd_X6_keyPeriod : yX6_keyPeriod.cls = RX6 ∧ yX6_keyPeriod.cls ≠ "java/lang/invoke/MethodHandle" ∧ yX6_keyPeriod.cls ≠ "java/lang/invoke/VarHandle" ∧ (parseMethodDescriptor yX6_keyPeriod.desc).map (fun d => d.parameters.length) = some 1 := by decide +kernel
set_option maxRecDepth 100000 in
set_option maxHeartbeats 4000000 in
theorem c_X6_keyPeriod {l : Launch} {D : va_G} {cs : wC4} {ad : Nat → Nat} {b : Nat} {G : wG} (x1 : Int32) (I : wI) (hp : pre_X6_keyPeriod x1 I) : Met l yX6_keyPeriod (ws_ yX6_keyPeriod cX6_keyPeriod 3 (some .int)) rm_X6_keyPeriod (va_Pc [.ref (b + 111), .int x1] (wPr D cs ad b G I)) (va_Qi (fun r I' => post_X6_keyPeriod x1 I r I') (wPo D cs b G) (fun q => b ≤ q)) 0 0 (fun q => b ≤ q) := by
  have hq := vc_X6_keyPeriod x1 I hp
  refine w_met (by decide) (Nat.le_of_ble_eq_true rfl) ?_
  intro p e s m below meth c hX hr hlk hK hE hH ls hl
  have C0 : wCx p m c s _ meth cX6_keyPeriod 3 RX6 (some .int) D cs ad b := ⟨hX, hr, hlk, hK, hE⟩
  have hX : CallFix p m c cX6_keyPeriod 3 s _ lw_all RX6 := hX
  have hx := hX.1
  have hb := hX.2.1
  have hown := hX.2.2.2.1
  have hts := hX.2.2.2.2
  have hl : lv_has ls 3 [(0, .ref (b + 111)), (1, .int x1)] := hl
  unfold v_X6_keyPeriod at hq
  refine lv_aload_n hx hb dX6_keyPeriod_0 rfl (lv_at hl 0 rfl) ?_
  obtain ⟨hp, hq⟩ := hq
  refine w_cV hH (w_rV (As := []) (rest := []) hX hK hE hH (c_X6_putAside   _ hp) ck6 sh111 q5_69 q5_71 qs53 q1_7 q5_72 hd_X6_putAside ⟨Nat.le_of_ble_eq_true rfl, Nat.le_of_ble_eq_true rfl⟩ ⟨rfl, rfl⟩ rfl hl.1 rfl (Nat.le_of_ble_eq_true rfl) dX6_keyPeriod_1 ⟨Nat.zero_le _, Nat.zero_le _⟩) (fun  I1 H locs hpo hH => ?_)
  have hq := hq  I1 hpo
  refine lv_aload_n hx hb dX6_keyPeriod_4 rfl (lv_at hl 0 rfl) ?_
  obtain ⟨hp, hq⟩ := hq
  refine w_cV hH (w_rV (As := []) (rest := []) hX hK hE hH (c_X6_toFirst   _ hp) ck6 sh111 q5_6 q5_8 qs46 q1_7 q5_9 hd_X6_toFirst ⟨Nat.le_of_ble_eq_true rfl, Nat.le_of_ble_eq_true rfl⟩ ⟨rfl, rfl⟩ rfl hl.1 rfl (Nat.le_of_ble_eq_true rfl) dX6_keyPeriod_5 ⟨Nat.zero_le _, Nat.zero_le _⟩) (fun  I2 H locs hpo hH => ?_)
  have hq := hq  I2 hpo
  refine lv_aload_n hx hb dX6_keyPeriod_8 rfl (lv_at hl 0 rfl) ?_
  refine lv_iload_n hx hb dX6_keyPeriod_9 rfl (lv_at hl 1 rfl) ?_
  obtain ⟨hp, hq⟩ := hq
  refine w_cV hH (w_rV (As := [.int x1]) (rest := []) hX hK hE hH (c_X6_doTurn  _ _ hp) ck6 sh111 q4_195 q4_197 qs37 q1_7 q4_198 hd_X6_doTurn ⟨Nat.le_of_ble_eq_true rfl, Nat.le_of_ble_eq_true rfl⟩ ⟨rfl, rfl⟩ rfl hl.1 rfl (Nat.le_of_ble_eq_true rfl) dX6_keyPeriod_10 ⟨Nat.zero_le _, Nat.zero_le _⟩) (fun  I3 H locs hpo hH => ?_)
  have hq := hq  I3 hpo
  refine lv_aload_n hx hb dX6_keyPeriod_13 rfl (lv_at hl 0 rfl) ?_
  obtain ⟨hp, hq⟩ := hq
  refine w_cIp hH (w_rV (As := []) (rest := []) hX hK hE hH (c_X6_period   _ hp) ck6 sh111 q5_73 q5_75 qs54 q1_7 q5_76 hd_X6_period ⟨Nat.le_of_ble_eq_true rfl, Nat.le_of_ble_eq_true rfl⟩ ⟨rfl, rfl⟩ rfl hl.1 rfl (Nat.le_of_ble_eq_true rfl) dX6_keyPeriod_14 ⟨Nat.zero_le _, Nat.zero_le _⟩) (fun r4  H locs hpo hH => ?_)
  have hq := hq r4  hpo
  refine lv_istore_n (lv' := [(2, .int r4), (0, .ref (b + 111)), (1, .int x1)]) hx hb dX6_keyPeriod_17 rfl hl (by decide) rfl (fun ls hl => ?_)
  refine lv_aload_n hx hb dX6_keyPeriod_18 rfl (lv_at hl 1 rfl) ?_
  obtain ⟨hp, hq⟩ := hq
  refine w_cV hH (w_rV (As := []) (rest := []) hX hK hE hH (c_X6_putBack   _ hp) ck6 sh111 q5_80 q5_82 qs55 q1_7 q5_83 hd_X6_putBack ⟨Nat.le_of_ble_eq_true rfl, Nat.le_of_ble_eq_true rfl⟩ ⟨rfl, rfl⟩ rfl hl.1 rfl (Nat.le_of_ble_eq_true rfl) dX6_keyPeriod_19 ⟨Nat.zero_le _, Nat.zero_le _⟩) (fun  I5 H locs hpo hH => ?_)
  have hq := hq  I5 hpo
  refine lv_iload_n hx hb dX6_keyPeriod_22 rfl (lv_at hl 0 rfl) ?_
  exact w_eI hX hr hlk hH hq dX6_keyPeriod_23
abbrev rm_X6_keyNow : Room := { frames := 4, cells := 0, slots := 0, locals := 94 }
theorem hd_X6_keyNow : yX6_keyNow.cls = RX6 ∧ yX6_keyNow.cls ≠ "java/lang/invoke/MethodHandle" ∧ yX6_keyNow.cls ≠ "java/lang/invoke/VarHandle" ∧ (parseMethodDescriptor yX6_keyNow.desc).map (fun d => d.parameters.length) = some 2 := by decide +kernel
set_option maxRecDepth 100000 in
set_option maxHeartbeats 4000000 in
theorem s_X6_keyNow_75 {x1 : Int32} {x2 : Int32} {Q : Int32 → wI → Prop} (C0 : wCx p m c s args meth cX6_keyNow 3 RX6 (some .int) D cs ad b) : ∀ (t0 : Int32) (I : wI) (H : Heap) (locs : List Loc) (ls : Array Slot), v_X6_keyNow_75 x1 x2 Q t0 I → wH D cs b G I s H locs → lv_has ls 3 [] → W p l e rm_X6_keyNow s m args below meth c H locs 0 0 (MQ below (va_Qi (Q) (wPo D cs b G) (fun q => b ≤ q)) args s 0 0 (fun q => b ≤ q)) (F0 m 75 ls [.int t0]) := by
  obtain ⟨hX, hr, hlk, hK, hE⟩ := id C0
  have hx := hX.1
  have hb := hX.2.1
  have hown := hX.2.2.2.1
  have hts := hX.2.2.2.2
  intro t0 I H locs ls hq hH hl
  unfold v_X6_keyNow_75 at hq
  exact w_eI hX hr hlk hH hq dX6_keyNow_75
set_option maxRecDepth 100000 in
set_option maxHeartbeats 4000000 in
theorem s_X6_keyNow_56 {x1 : Int32} {x2 : Int32} {Q : Int32 → wI → Prop} (C0 : wCx p m c s args meth cX6_keyNow 3 RX6 (some .int) D cs ad b) : ∀  (I : wI) (H : Heap) (locs : List Loc) (ls : Array Slot), v_X6_keyNow_56 x1 x2 Q  I → wH D cs b G I s H locs → lv_has ls 3 [(0, .ref (b + 111)), (1, .int x1)] → W p l e rm_X6_keyNow s m args below meth c H locs 0 0 (MQ below (va_Qi (Q) (wPo D cs b G) (fun q => b ≤ q)) args s 0 0 (fun q => b ≤ q)) (F0 m 56 ls []) := by
  obtain ⟨hX, hr, hlk, hK, hE⟩ := id C0
  have hx := hX.1
  have hb := hX.2.1
  have hown := hX.2.2.2.1
  have hts := hX.2.2.2.2
  intro  I H locs ls hq hH hl
  unfold v_X6_keyNow_56 at hq
  refine lv_aload_n hx hb dX6_keyNow_56 rfl (lv_at hl 0 rfl) ?_
  refine lv_iload_n hx hb dX6_keyNow_57 rfl (lv_at hl 1 rfl) ?_
  obtain ⟨hp, hq⟩ := hq
  refine w_cI hH (w_rV (As := [.int x1]) (rest := []) hX hK hE hH (c_X6_keyPeriod  _ _ hp) ck6 sh111 q5_65 q5_67 qs52 q1_7 q5_68 hd_X6_keyPeriod ⟨Nat.le_of_ble_eq_true rfl, Nat.le_of_ble_eq_true rfl⟩ ⟨rfl, rfl⟩ rfl hl.1 rfl (Nat.le_of_ble_eq_true rfl) dX6_keyNow_58 ⟨Nat.zero_le _, Nat.zero_le _⟩) (fun r1 I2 H locs hpo hH => ?_)
  have hq := hq r1 I2 hpo
  exact w_eI hX hr hlk hH hq dX6_keyNow_61
set_option maxRecDepth 100000 in
set_option maxHeartbeats 4000000 in
theorem c_X6_keyNow {l : Launch} {D : va_G} {cs : wC4} {ad : Nat → Nat} {b : Nat} {G : wG} (x1 : Int32) (x2 : Int32) (I : wI) (hp : pre_X6_keyNow x1 x2 I) : Met l yX6_keyNow (ws_ yX6_keyNow cX6_keyNow 3 (some .int)) rm_X6_keyNow (va_Pc [.ref (b + 111), .int x1, .int x2] (wPr D cs ad b G I)) (va_Qi (fun r I' => post_X6_keyNow x1 x2 I r I') (wPo D cs b G) (fun q => b ≤ q)) 0 0 (fun q => b ≤ q) := by
  have hq := vc_X6_keyNow x1 x2 I hp
  refine w_met (by decide) (Nat.le_of_ble_eq_true rfl) ?_
  intro p e s m below meth c hX hr hlk hK hE hH ls hl
  have C0 : wCx p m c s _ meth cX6_keyNow 3 RX6 (some .int) D cs ad b := ⟨hX, hr, hlk, hK, hE⟩
  have hX : CallFix p m c cX6_keyNow 3 s _ lw_all RX6 := hX
  have hx := hX.1
  have hb := hX.2.1
  have hown := hX.2.2.2.1
  have hts := hX.2.2.2.2
  have hl : lv_has ls 3 [(0, .ref (b + 111)), (1, .int x1), (2, .int x2)] := hl
  unfold v_X6_keyNow at hq
  refine lv_iload_n hx hb dX6_keyNow_0 rfl (lv_at hl 2 rfl) ?_
  by_cases hc0 : x2 = (0 : Int32)
  · have hq := hq.1 hc0
    refine lv_tableIn (tgt := 36) hx hb dX6_keyNow_1 (by rw [hc0]; decide) (by rw [hc0]; decide) (by rw [hc0]; rfl) (by decide) ?_
    refine lv_aload_n hx hb dX6_keyNow_36 rfl (lv_at hl 0 rfl) ?_
    refine w_getr hX hK hH ck6 sh111 1 1 112 fr6_1 rfl q4_74 dX6_keyNow_37 ?_
    refine lv_bipush (v := 18) hx hb dX6_keyNow_40 (by decide) ?_
    refine lv_iload_n hx hb dX6_keyNow_42 rfl (lv_at hl 1 rfl) ?_
    refine lv_iadd hx hb dX6_keyNow_43 ?_
    obtain ⟨hc, hq⟩ := hq
    refine w_iald hX hK hH (sf6_1 sh111) hc dX6_keyNow_44 ?_
    exact w_eI hX hr hlk hH hq dX6_keyNow_45
  by_cases hc1 : x2 = (1 : Int32)
  · have hq := hq.2.1 hc1
    refine lv_tableIn (tgt := 46) hx hb dX6_keyNow_1 (by rw [hc1]; decide) (by rw [hc1]; decide) (by rw [hc1]; rfl) (by decide) ?_
    refine lv_aload_n hx hb dX6_keyNow_46 rfl (lv_at hl 0 rfl) ?_
    refine w_getr hX hK hH ck6 sh111 1 1 112 fr6_1 rfl q4_74 dX6_keyNow_47 ?_
    refine lv_bipush (v := 23) hx hb dX6_keyNow_50 (by decide) ?_
    refine lv_iload_n hx hb dX6_keyNow_52 rfl (lv_at hl 1 rfl) ?_
    refine lv_iadd hx hb dX6_keyNow_53 ?_
    obtain ⟨hc, hq⟩ := hq
    refine w_iald hX hK hH (sf6_1 sh111) hc dX6_keyNow_54 ?_
    exact w_eI hX hr hlk hH hq dX6_keyNow_55
  by_cases hc2 : x2 = (2 : Int32)
  · have hq := hq.2.2.1 hc2
    refine lv_tableIn (tgt := 56) hx hb dX6_keyNow_1 (by rw [hc2]; decide) (by rw [hc2]; decide) (by rw [hc2]; rfl) (by decide) ?_
    exact s_X6_keyNow_56  C0   _ _ _ _ hq hH (lv_sub hl [0, 1] rfl)
  by_cases hc3 : x2 = (3 : Int32)
  · have hq := hq.2.2.2.1 hc3
    refine lv_tableIn (tgt := 56) hx hb dX6_keyNow_1 (by rw [hc3]; decide) (by rw [hc3]; decide) (by rw [hc3]; rfl) (by decide) ?_
    exact s_X6_keyNow_56  C0   _ _ _ _ hq hH (lv_sub hl [0, 1] rfl)
  by_cases hc4 : x2 = (4 : Int32)
  · have hq := hq.2.2.2.2.1 hc4
    refine lv_tableIn (tgt := 62) hx hb dX6_keyNow_1 (by rw [hc4]; decide) (by rw [hc4]; decide) (by rw [hc4]; rfl) (by decide) ?_
    refine lv_aload_n hx hb dX6_keyNow_62 rfl (lv_at hl 0 rfl) ?_
    refine lv_iload_n hx hb dX6_keyNow_63 rfl (lv_at hl 1 rfl) ?_
    obtain ⟨hp, hq⟩ := hq
    refine w_cIp hH (w_rV (As := [.int x1]) (rest := []) hX hK hE hH (c_X6_isStuck  _ _ hp) ck6 sh111 q4_171 q4_173 qs31 q1_7 q4_174 hd_X6_isStuck ⟨Nat.le_of_ble_eq_true rfl, Nat.le_of_ble_eq_true rfl⟩ ⟨rfl, rfl⟩ rfl hl.1 rfl (Nat.le_of_ble_eq_true rfl) dX6_keyNow_64 ⟨Nat.zero_le _, Nat.zero_le _⟩) (fun r1  H locs hpo hH => ?_)
    have hq := hq r1  hpo
    refine lv_if_eq (tgt := 74) hx hb dX6_keyNow_67 (by decide) (fun hc => ?_) (fun hc => ?_)
    · have hq := hq.1 hc
      refine lv_iconst (v := 0) hx hb dX6_keyNow_74 (by decide) ?_
      exact s_X6_keyNow_75  C0  (0 : Int32) _ _ _ _ hq hH (lv_sub hl [] rfl)
    · have hq := hq.2 hc
      refine lv_iconst (v := 1) hx hb dX6_keyNow_70 (by decide) ?_
      refine lv_goto (tgt := 75) hx hb dX6_keyNow_71 (by decide) ?_
      exact s_X6_keyNow_75  C0  (1 : Int32) _ _ _ _ hq hH (lv_sub hl [] rfl)
  have hq := hq.2.2.2.2.2 ⟨hc0, hc1, hc2, hc3, hc4⟩
  have he0 := w_toInt_ne hc0
  have he1 := w_toInt_ne hc1
  have he2 := w_toInt_ne hc2
  have he3 := w_toInt_ne hc3
  have he4 := w_toInt_ne hc4
  refine lv_tableOut (tgt := 76) hx hb dX6_keyNow_1 (w_swOut0_4 hc0 hc1 hc2 hc3 hc4) (by decide) ?_
  refine lv_aload_n hx hb dX6_keyNow_76 rfl (lv_at hl 0 rfl) ?_
  refine w_getr hX hK hH ck6 sh111 1 1 112 fr6_1 rfl q4_74 dX6_keyNow_77 ?_
  refine lv_bipush (v := 28) hx hb dX6_keyNow_80 (by decide) ?_
  refine lv_iload_n hx hb dX6_keyNow_82 rfl (lv_at hl 1 rfl) ?_
  refine lv_iadd hx hb dX6_keyNow_83 ?_
  obtain ⟨hc, hq⟩ := hq
  refine w_iald hX hK hH (sf6_1 sh111) hc dX6_keyNow_84 ?_
  exact w_eI hX hr hlk hH hq dX6_keyNow_85
abbrev rm_X6_key : Room := { frames := 5, cells := 0, slots := 0, locals := 116 }
theorem hd_X6_key : yX6_key.cls = RX6 ∧ yX6_key.cls ≠ "java/lang/invoke/MethodHandle" ∧ yX6_key.cls ≠ "java/lang/invoke/VarHandle" ∧ (parseMethodDescriptor yX6_key.desc).map (fun d => d.parameters.length) = some 2 := by decide +kernel
set_option maxRecDepth 100000 in
set_option maxHeartbeats 4000000 in
theorem s_X6_key_46 {x1 : Int32} {x2 : Int32} {Q : Int32 → wI → Prop} (C0 : wCx p m c s args meth cX6_key 3 RX6 (some .int) D cs ad b) : ∀ (t0 : Int32) (I : wI) (H : Heap) (locs : List Loc) (ls : Array Slot), v_X6_key_46 x1 x2 Q t0 I → wH D cs b G I s H locs → lv_has ls 3 [] → W p l e rm_X6_key s m args below meth c H locs 0 0 (MQ below (va_Qi (Q) (wPo D cs b G) (fun q => b ≤ q)) args s 0 0 (fun q => b ≤ q)) (F0 m 46 ls [.int t0]) := by
  obtain ⟨hX, hr, hlk, hK, hE⟩ := id C0
  have hx := hX.1
  have hb := hX.2.1
  have hown := hX.2.2.2.1
  have hts := hX.2.2.2.2
  intro t0 I H locs ls hq hH hl
  unfold v_X6_key_46 at hq
  exact w_eI hX hr hlk hH hq dX6_key_46
set_option maxRecDepth 100000 in
set_option maxHeartbeats 4000000 in
theorem s_X6_key_26 {x1 : Int32} {x2 : Int32} {Q : Int32 → wI → Prop} (C0 : wCx p m c s args meth cX6_key 3 RX6 (some .int) D cs ad b) : ∀ (t0 : Int32) (I : wI) (H : Heap) (locs : List Loc) (ls : Array Slot), v_X6_key_26 x1 x2 Q t0 I → wH D cs b G I s H locs → lv_has ls 3 [(0, .ref (b + 111)), (1, .int x1), (2, .int x2)] → W p l e rm_X6_key s m args below meth c H locs 0 0 (MQ below (va_Qi (Q) (wPo D cs b G) (fun q => b ≤ q)) args s 0 0 (fun q => b ≤ q)) (F0 m 26 ls [.int t0, .ref (b + 111)]) := by
  obtain ⟨hX, hr, hlk, hK, hE⟩ := id C0
  have hx := hX.1
  have hb := hX.2.1
  have hown := hX.2.2.2.1
  have hts := hX.2.2.2.2
  intro t0 I H locs ls hq hH hl
  unfold v_X6_key_26 at hq
  refine w_puti hX hK hH ck6 sh111 0 fw6_0 q4_73 dX6_key_26 (fun I1 H locs hI hH => ?_)
  have hq := hq I1 hI
  refine lv_aload_n hx hb dX6_key_29 rfl (lv_at hl 0 rfl) ?_
  refine w_geti hX hK hH ck6 sh111 0 fi6_0 q4_73 dX6_key_30 ?_
  refine lv_if_le (tgt := 40) hx hb dX6_key_33 (by decide) (fun hc => ?_) (fun hc => ?_)
  · have hq := hq.1 hc
    refine lv_aload_n hx hb dX6_key_40 rfl (lv_at hl 0 rfl) ?_
    refine lv_iload_n hx hb dX6_key_41 rfl (lv_at hl 1 rfl) ?_
    refine lv_iload_n hx hb dX6_key_42 rfl (lv_at hl 2 rfl) ?_
    obtain ⟨hp, hq⟩ := hq
    refine w_cI hH (w_rV (As := [.int x1, .int x2]) (rest := []) hX hK hE hH (c_X6_keyNow  _ _ _ hp) ck6 sh111 q5_61 q5_63 qs51 q1_7 q5_64 hd_X6_keyNow ⟨Nat.le_of_ble_eq_true rfl, Nat.le_of_ble_eq_true rfl⟩ ⟨rfl, rfl⟩ rfl hl.1 rfl (Nat.le_of_ble_eq_true rfl) dX6_key_43 ⟨Nat.zero_le _, Nat.zero_le _⟩) (fun r2 I3 H locs hpo hH => ?_)
    have hq := hq r2 I3 hpo
    exact s_X6_key_46  C0  r2 _ _ _ _ hq hH (lv_sub hl [] rfl)
  · have hq := hq.2 hc
    refine lv_iconst (v := 0) hx hb dX6_key_36 (by decide) ?_
    refine lv_goto (tgt := 46) hx hb dX6_key_37 (by decide) ?_
    exact s_X6_key_46  C0  (0 : Int32) _ _ _ _ hq hH (lv_sub hl [] rfl)
set_option maxRecDepth 100000 in
set_option maxHeartbeats 4000000 in
theorem c_X6_key {l : Launch} {D : va_G} {cs : wC4} {ad : Nat → Nat} {b : Nat} {G : wG} (x1 : Int32) (x2 : Int32) (I : wI) (hp : pre_X6_key x1 x2 I) : Met l yX6_key (ws_ yX6_key cX6_key 3 (some .int)) rm_X6_key (va_Pc [.ref (b + 111), .int x1, .int x2] (wPr D cs ad b G I)) (va_Qi (fun r I' => post_X6_key x1 x2 I r I') (wPo D cs b G) (fun q => b ≤ q)) 0 0 (fun q => b ≤ q) := by
  have hq := vc_X6_key x1 x2 I hp
  refine w_met (by decide) (Nat.le_of_ble_eq_true rfl) ?_
  intro p e s m below meth c hX hr hlk hK hE hH ls hl
  have C0 : wCx p m c s _ meth cX6_key 3 RX6 (some .int) D cs ad b := ⟨hX, hr, hlk, hK, hE⟩
  have hX : CallFix p m c cX6_key 3 s _ lw_all RX6 := hX
  have hx := hX.1
  have hb := hX.2.1
  have hown := hX.2.2.2.1
  have hts := hX.2.2.2.2
  have hl : lv_has ls 3 [(0, .ref (b + 111)), (1, .int x1), (2, .int x2)] := hl
  unfold v_X6_key at hq
  refine lv_aload_n hx hb dX6_key_0 rfl (lv_at hl 0 rfl) ?_
  refine lv_iload_n hx hb dX6_key_1 rfl (lv_at hl 1 rfl) ?_
  obtain ⟨hp, hq⟩ := hq
  refine w_cIp hH (w_rS (As := [.int x1]) (rest := [.ref (b + 111)]) hX hK hE hH (c_X6_isKey  _ _ hp) q4_165 q4_166 q1_7 q4_167 hd_X6_isKey.2 ⟨Nat.le_of_ble_eq_true rfl, Nat.le_of_ble_eq_true rfl⟩ ⟨rfl, rfl⟩ rfl hl.1 rfl (Nat.le_of_ble_eq_true rfl) dX6_key_2 ⟨Nat.zero_le _, Nat.zero_le _⟩) (fun r1  H locs hpo hH => ?_)
  have hq := hq r1  hpo
  refine lv_if_ne (tgt := 12) hx hb dX6_key_5 (by decide) (fun hc => ?_) (fun hc => ?_)
  · have hq := hq.1 hc
    refine lv_iload_n hx hb dX6_key_12 rfl (lv_at hl 2 rfl) ?_
    refine lv_iconst (v := 0) hx hb dX6_key_13 (by decide) ?_
    refine lv_iconst (v := 5) hx hb dX6_key_14 (by decide) ?_
    obtain ⟨hp, hq⟩ := hq
    refine w_cIp hH (w_rS (As := [.int x2, .int (0 : Int32), .int (5 : Int32)]) (rest := [.ref (b + 111)]) hX hK hE hH (c_X6_in  _ _ _ _ hp) q4_168 q4_169 q1_7 q4_170 hd_X6_in.2 ⟨Nat.le_of_ble_eq_true rfl, Nat.le_of_ble_eq_true rfl⟩ ⟨rfl, rfl⟩ rfl hl.1 rfl (Nat.le_of_ble_eq_true rfl) dX6_key_15 ⟨Nat.zero_le _, Nat.zero_le _⟩) (fun r2  H locs hpo hH => ?_)
    have hq := hq r2  hpo
    refine lv_if_eq (tgt := 25) hx hb dX6_key_18 (by decide) (fun hc => ?_) (fun hc => ?_)
    · have hq := hq.1 hc
      refine lv_iconst (v := 2) hx hb dX6_key_25 (by decide) ?_
      exact s_X6_key_26  C0  (2 : Int32) _ _ _ _ hq hH (lv_sub hl [0, 1, 2] rfl)
    · have hq := hq.2 hc
      refine lv_iconst (v := 0) hx hb dX6_key_21 (by decide) ?_
      refine lv_goto (tgt := 26) hx hb dX6_key_22 (by decide) ?_
      exact s_X6_key_26  C0  (0 : Int32) _ _ _ _ hq hH (lv_sub hl [0, 1, 2] rfl)
  · have hq := hq.2 hc
    refine lv_iconst (v := 1) hx hb dX6_key_8 (by decide) ?_
    refine lv_goto (tgt := 26) hx hb dX6_key_9 (by decide) ?_
    exact s_X6_key_26  C0  (1 : Int32) _ _ _ _ hq hH (lv_sub hl [0, 1, 2] rfl)
end
