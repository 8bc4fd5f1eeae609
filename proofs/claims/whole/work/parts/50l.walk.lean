section
variable {p : Program} {l : Launch} {e : Env} {s : State} {m : MethodId} {args : Array Value} {below : List Frame} {meth : Method} {c : Code} {D : va_G} {cs : wC4} {ad : Nat → Nat} {b : Nat} {G : wG}
abbrev rm_X6_readWord : Room := { frames := 2, cells := 0, slots := 0, locals := 46 }
theorem hd_X6_readWord : yX6_readWord.cls = RX6 ∧ yX6_readWord.cls ≠ "java/lang/invoke/MethodHandle" ∧ yX6_readWord.cls ≠ "java/lang/invoke/VarHandle" ∧ (parseMethodDescriptor yX6_readWord.desc).map (fun d => d.parameters.length) = some 0 := by decide +kernel
set_option maxRecDepth 100000 in
set_option maxHeartbeats 4000000 in
theorem s_X6_readWord_261 {Q : Int32 → wI → Prop} {K17 : Int32 → wI → Prop} (C0 : wCx p m c s args meth cX6_readWord 5 RX6 (some .int) D cs ad b) (hK17 : ∀ (v1 : Int32) (I : wI) (H : Heap) (locs : List Loc) (ls : Array Slot), K17 v1 I → wH D cs b G I s H locs → lv_has ls 5 [(0, .ref (b + 111)), (1, .int v1)] → W p l e rm_X6_readWord s m args below meth c H locs 0 0 (MQ below (va_Qi (Q) (wPo D cs b G) (fun q => b ≤ q)) args s 0 0 (fun q => b ≤ q)) (F0 m 17 ls [])) : ∀ (v1 : Int32) (I : wI) (H : Heap) (locs : List Loc) (ls : Array Slot), v_X6_readWord_261 Q K17 v1 I → wH D cs b G I s H locs → lv_has ls 5 [(0, .ref (b + 111)), (1, .int v1)] → W p l e rm_X6_readWord s m args below meth c H locs 0 0 (MQ below (va_Qi (Q) (wPo D cs b G) (fun q => b ≤ q)) args s 0 0 (fun q => b ≤ q)) (F0 m 261 ls []) := by
  obtain ⟨hX, hr, hlk, hK, hE⟩ := id C0
  have hx := hX.1
  have hb := hX.2.1
  have hown := hX.2.2.2.1
  have hts := hX.2.2.2.2
  intro v1 I H locs ls hq hH hl
  unfold v_X6_readWord_261 at hq
  refine lv_aload_n hx hb dX6_readWord_261 rfl (lv_at hl 0 rfl) ?_
  refine w_geti hX hK hH ck6 sh111 11 fi6_11 q4_84 dX6_readWord_262 ?_
  refine lv_sipush (v := 500) hx hb dX6_readWord_265 (by decide) ?_
  refine lv_icmp_le (tgt := 275) hx hb dX6_readWord_268 (by decide) (fun hc => ?_) (fun hc => ?_)
  · have hq := hq.1 hc
    refine lv_iinc (v := (v1 + (1 : Int32))) (lv' := [(1, .int (v1 + (1 : Int32))), (0, .ref (b + 111))]) hx hb dX6_readWord_275 hl (k := 1) rfl rfl (by decide) rfl (fun ls hl => ?_)
    refine lv_goto (tgt := 17) hx hb dX6_readWord_278 (by decide) ?_
    exact hK17 (v1 + (1 : Int32)) _ _ _ _ hq hH (lv_sub hl [1, 0] rfl)
  · have hq := hq.2 hc
    refine lv_sipush (v := 501) hx hb dX6_readWord_271 (by decide) ?_
    exact w_eI hX hr hlk hH hq dX6_readWord_274
set_option maxRecDepth 100000 in
set_option maxHeartbeats 4000000 in
theorem s_X6_readWord_258 {Q : Int32 → wI → Prop} {K17 : Int32 → wI → Prop} (C0 : wCx p m c s args meth cX6_readWord 5 RX6 (some .int) D cs ad b) (hK17 : ∀ (v1 : Int32) (I : wI) (H : Heap) (locs : List Loc) (ls : Array Slot), K17 v1 I → wH D cs b G I s H locs → lv_has ls 5 [(0, .ref (b + 111)), (1, .int v1)] → W p l e rm_X6_readWord s m args below meth c H locs 0 0 (MQ below (va_Qi (Q) (wPo D cs b G) (fun q => b ≤ q)) args s 0 0 (fun q => b ≤ q)) (F0 m 17 ls [])) : ∀ (v1 : Int32) (t0 : Int32) (I : wI) (H : Heap) (locs : List Loc) (ls : Array Slot), v_X6_readWord_258 Q K17 v1 t0 I → wH D cs b G I s H locs → lv_has ls 5 [(0, .ref (b + 111)), (1, .int v1)] → W p l e rm_X6_readWord s m args below meth c H locs 0 0 (MQ below (va_Qi (Q) (wPo D cs b G) (fun q => b ≤ q)) args s 0 0 (fun q => b ≤ q)) (F0 m 258 ls [.int t0, .ref (b + 111)]) := by
  obtain ⟨hX, hr, hlk, hK, hE⟩ := id C0
  have hx := hX.1
  have hb := hX.2.1
  have hown := hX.2.2.2.1
  have hts := hX.2.2.2.2
  intro v1 t0 I H locs ls hq hH hl
  unfold v_X6_readWord_258 at hq
  obtain ⟨hp, hq⟩ := hq
  refine w_cV hH (w_rV (As := [.int t0]) (rest := []) hX hK hE hH (c_X6_addTurn  _ _ hp) ck6 sh111 q4_234 q4_236 qs44 q1_7 q4_237 hd_X6_addTurn ⟨Nat.le_of_ble_eq_true rfl, Nat.le_of_ble_eq_true rfl⟩ ⟨rfl, rfl⟩ rfl hl.1 rfl (Nat.le_of_ble_eq_true rfl) dX6_readWord_258 ⟨Nat.zero_le _, Nat.zero_le _⟩) (fun  I1 H locs hpo hH => ?_)
  have hq := hq  I1 hpo
  exact s_X6_readWord_261  C0 hK17 v1 _ _ _ _ hq hH (lv_sub hl [0, 1] rfl)
set_option maxRecDepth 100000 in
set_option maxHeartbeats 4000000 in
theorem s_X6_readWord_165 {Q : Int32 → wI → Prop} {K17 : Int32 → wI → Prop} (C0 : wCx p m c s args meth cX6_readWord 5 RX6 (some .int) D cs ad b) (hK17 : ∀ (v1 : Int32) (I : wI) (H : Heap) (locs : List Loc) (ls : Array Slot), K17 v1 I → wH D cs b G I s H locs → lv_has ls 5 [(0, .ref (b + 111)), (1, .int v1)] → W p l e rm_X6_readWord s m args below meth c H locs 0 0 (MQ below (va_Qi (Q) (wPo D cs b G) (fun q => b ≤ q)) args s 0 0 (fun q => b ≤ q)) (F0 m 17 ls [])) : ∀ (v1 : Int32) (I : wI) (H : Heap) (locs : List Loc) (ls : Array Slot), v_X6_readWord_165 Q K17 v1 I → wH D cs b G I s H locs → lv_has ls 5 [(0, .ref (b + 111)), (1, .int v1)] → W p l e rm_X6_readWord s m args below meth c H locs 0 0 (MQ below (va_Qi (Q) (wPo D cs b G) (fun q => b ≤ q)) args s 0 0 (fun q => b ≤ q)) (F0 m 165 ls []) := by
  obtain ⟨hX, hr, hlk, hK, hE⟩ := id C0
  have hx := hX.1
  have hb := hX.2.1
  have hown := hX.2.2.2.1
  have hts := hX.2.2.2.2
  intro v1 I H locs ls hq hH hl
  unfold v_X6_readWord_165 at hq
  refine lv_iinc (v := (v1 + (1 : Int32))) (lv' := [(1, .int (v1 + (1 : Int32))), (0, .ref (b + 111))]) hx hb dX6_readWord_165 hl (k := 1) rfl rfl (by decide) rfl (fun ls hl => ?_)
  refine lv_goto (tgt := 261) hx hb dX6_readWord_168 (by decide) ?_
  exact s_X6_readWord_261  C0 hK17 (v1 + (1 : Int32)) _ _ _ _ hq hH (lv_sub hl [1, 0] rfl)
set_option maxRecDepth 100000 in
set_option maxHeartbeats 4000000 in
theorem s_X6_readWord_128 {Q : Int32 → wI → Prop} {K17 : Int32 → wI → Prop} (C0 : wCx p m c s args meth cX6_readWord 5 RX6 (some .int) D cs ad b) (hK17 : ∀ (v1 : Int32) (I : wI) (H : Heap) (locs : List Loc) (ls : Array Slot), K17 v1 I → wH D cs b G I s H locs → lv_has ls 5 [(0, .ref (b + 111)), (1, .int v1)] → W p l e rm_X6_readWord s m args below meth c H locs 0 0 (MQ below (va_Qi (Q) (wPo D cs b G) (fun q => b ≤ q)) args s 0 0 (fun q => b ≤ q)) (F0 m 17 ls [])) : ∀ (f : Nat) (v1 : Int32) (v3 : Int32) (v4 : Int32) (I : wI) (H : Heap) (locs : List Loc) (ls : Array Slot), v_X6_readWord_128 Q K17 f v1 v3 v4 I → wH D cs b G I s H locs → lv_has ls 5 [(0, .ref (b + 111)), (1, .int v1), (3, .int v3), (4, .int v4)] → W p l e rm_X6_readWord s m args below meth c H locs 0 0 (MQ below (va_Qi (Q) (wPo D cs b G) (fun q => b ≤ q)) args s 0 0 (fun q => b ≤ q)) (F0 m 128 ls []) := by
  obtain ⟨hX, hr, hlk, hK, hE⟩ := id C0
  have hx := hX.1
  have hb := hX.2.1
  have hown := hX.2.2.2.1
  have hts := hX.2.2.2.2
  intro f
  induction f with
  | zero =>
    intro v1 v3 v4 I H locs ls hq
    exact hq.elim
  | succ f hK128 =>
    intro v1 v3 v4 I H locs ls hq hH hl
    have hq : g_X6_readWord_128 Q K17 (v_X6_readWord_128 Q K17 f) v1 v3 v4 I := hq
    unfold g_X6_readWord_128 at hq
    refine lv_iload hx hb dX6_readWord_128 (lv_at hl 3 rfl) ?_
    refine lv_iconst (v := 1) hx hb dX6_readWord_130 (by decide) ?_
    refine lv_icmp_le (tgt := 165) hx hb dX6_readWord_131 (by decide) (fun hc => ?_) (fun hc => ?_)
    · have hq := hq.1 hc
      exact s_X6_readWord_165  C0 hK17 v1 _ _ _ _ hq hH (lv_sub hl [0, 1] rfl)
    · have hq := hq.2 hc
      refine lv_aload_n hx hb dX6_readWord_134 rfl (lv_at hl 0 rfl) ?_
      refine w_geti hX hK hH ck6 sh111 11 fi6_11 q4_84 dX6_readWord_135 ?_
      refine lv_sipush (v := 500) hx hb dX6_readWord_138 (by decide) ?_
      refine lv_icmp_gt (tgt := 165) hx hb dX6_readWord_141 (by decide) (fun hc => ?_) (fun hc => ?_)
      · have hq := hq.1 hc
        exact s_X6_readWord_165  C0 hK17 v1 _ _ _ _ hq hH (lv_sub hl [0, 1] rfl)
      · have hq := hq.2 hc
        refine lv_aload_n hx hb dX6_readWord_144 rfl (lv_at hl 0 rfl) ?_
        refine lv_aload_n hx hb dX6_readWord_145 rfl (lv_at hl 0 rfl) ?_
        refine w_getr hX hK hH ck6 sh111 14 9 120 fr6_14 rfl q4_87 dX6_readWord_146 ?_
        refine lv_aload_n hx hb dX6_readWord_149 rfl (lv_at hl 0 rfl) ?_
        refine w_geti hX hK hH ck6 sh111 18 fi6_18 q4_91 dX6_readWord_150 ?_
        obtain ⟨hc, hq⟩ := hq
        refine w_iald hX hK hH (sf6_14 sh111) hc dX6_readWord_153 ?_
        refine lv_iload_n hx hb dX6_readWord_154 rfl (lv_at hl 2 rfl) ?_
        refine lv_iconst (v := 0) hx hb dX6_readWord_155 (by decide) ?_
        obtain ⟨hp, hq⟩ := hq
        refine w_cV hH (w_rV (As := [.int (I 120 ((I 111 18)).toNatClampNeg), .int v3, .int (0 : Int32)]) (rest := []) hX hK hE hH (c_X6_addAgain  _ _ _ _ hp) ck6 sh111 q4_230 q4_232 qs43 q1_7 q4_233 hd_X6_addAgain ⟨Nat.le_of_ble_eq_true rfl, Nat.le_of_ble_eq_true rfl⟩ ⟨rfl, rfl⟩ rfl hl.1 rfl (Nat.le_of_ble_eq_true rfl) dX6_readWord_156 ⟨Nat.zero_le _, Nat.zero_le _⟩) (fun  I1 H locs hpo hH => ?_)
        have hq := hq  I1 hpo
        refine lv_iinc (v := (v4 + (-1 : Int32))) (lv' := [(4, .int (v4 + (-1 : Int32))), (0, .ref (b + 111)), (1, .int v1), (3, .int v3)]) hx hb dX6_readWord_159 hl (k := 3) rfl rfl (by decide) rfl (fun ls hl => ?_)
        refine lv_goto (tgt := 128) hx hb dX6_readWord_162 (by decide) ?_
        exact hK128 v1 v3 (v4 + (-1 : Int32)) _ _ _ _ hq hH (lv_sub hl [1, 2, 3, 0] rfl)
set_option maxRecDepth 100000 in
set_option maxHeartbeats 4000000 in
theorem s_X6_readWord_44 {Q : Int32 → wI → Prop} {K17 : Int32 → wI → Prop} (C0 : wCx p m c s args meth cX6_readWord 5 RX6 (some .int) D cs ad b) (hK17 : ∀ (v1 : Int32) (I : wI) (H : Heap) (locs : List Loc) (ls : Array Slot), K17 v1 I → wH D cs b G I s H locs → lv_has ls 5 [(0, .ref (b + 111)), (1, .int v1)] → W p l e rm_X6_readWord s m args below meth c H locs 0 0 (MQ below (va_Qi (Q) (wPo D cs b G) (fun q => b ≤ q)) args s 0 0 (fun q => b ≤ q)) (F0 m 17 ls [])) : ∀ (v1 : Int32) (I : wI) (H : Heap) (locs : List Loc) (ls : Array Slot), v_X6_readWord_44 Q K17 v1 I → wH D cs b G I s H locs → lv_has ls 5 [(0, .ref (b + 111)), (1, .int v1)] → W p l e rm_X6_readWord s m args below meth c H locs 0 0 (MQ below (va_Qi (Q) (wPo D cs b G) (fun q => b ≤ q)) args s 0 0 (fun q => b ≤ q)) (F0 m 44 ls []) := by
  obtain ⟨hX, hr, hlk, hK, hE⟩ := id C0
  have hx := hX.1
  have hb := hX.2.1
  have hown := hX.2.2.2.1
  have hts := hX.2.2.2.2
  intro v1 I H locs ls hq hH hl
  unfold v_X6_readWord_44 at hq
  refine lv_aload_n hx hb dX6_readWord_44 rfl (lv_at hl 0 rfl) ?_
  refine w_getr hX hK hH ck6 sh111 14 9 120 fr6_14 rfl q4_87 dX6_readWord_45 ?_
  refine lv_aload_n hx hb dX6_readWord_48 rfl (lv_at hl 0 rfl) ?_
  refine w_geti hX hK hH ck6 sh111 18 fi6_18 q4_91 dX6_readWord_49 ?_
  refine lv_aload_n hx hb dX6_readWord_52 rfl (lv_at hl 0 rfl) ?_
  refine w_geti hX hK hH ck6 sh111 11 fi6_11 q4_84 dX6_readWord_53 ?_
  obtain ⟨hc, hq⟩ := hq
  refine w_iast hX hK hH (sf6_14 sh111) hc dX6_readWord_56 (fun I1 H locs hI hH => ?_)
  have hq := hq I1 hI
  refine lv_aload_n hx hb dX6_readWord_57 rfl (lv_at hl 0 rfl) ?_
  refine lv_dup hx hb dX6_readWord_58 rfl ?_
  refine w_geti hX hK hH ck6 sh111 18 fi6_18 q4_91 dX6_readWord_59 ?_
  refine lv_iconst (v := 1) hx hb dX6_readWord_62 (by decide) ?_
  refine lv_iadd hx hb dX6_readWord_63 ?_
  refine w_puti hX hK hH ck6 sh111 18 fw6_18 q4_91 dX6_readWord_64 (fun I2 H locs hI hH => ?_)
  have hq := hq I2 hI
  refine lv_goto (tgt := 261) hx hb dX6_readWord_67 (by decide) ?_
  exact s_X6_readWord_261  C0 hK17 v1 _ _ _ _ hq hH (lv_sub hl [0, 1] rfl)
set_option maxRecDepth 100000 in
set_option maxHeartbeats 4000000 in
theorem s_X6_readWord_17 {Q : Int32 → wI → Prop} (C0 : wCx p m c s args meth cX6_readWord 5 RX6 (some .int) D cs ad b) : ∀ (f : Nat) (v1 : Int32) (I : wI) (H : Heap) (locs : List Loc) (ls : Array Slot), v_X6_readWord_17 Q f v1 I → wH D cs b G I s H locs → lv_has ls 5 [(0, .ref (b + 111)), (1, .int v1)] → W p l e rm_X6_readWord s m args below meth c H locs 0 0 (MQ below (va_Qi (Q) (wPo D cs b G) (fun q => b ≤ q)) args s 0 0 (fun q => b ≤ q)) (F0 m 17 ls []) := by
  obtain ⟨hX, hr, hlk, hK, hE⟩ := id C0
  have hx := hX.1
  have hb := hX.2.1
  have hown := hX.2.2.2.1
  have hts := hX.2.2.2.2
  intro f
  induction f with
  | zero =>
    intro v1 I H locs ls hq
    exact hq.elim
  | succ f hK17 =>
    intro v1 I H locs ls hq hH hl
    have hq : g_X6_readWord_17 Q (v_X6_readWord_17 Q f) v1 I := hq
    unfold g_X6_readWord_17 at hq
    refine lv_iload_n hx hb dX6_readWord_17 rfl (lv_at hl 1 rfl) ?_
    refine lv_aload_n hx hb dX6_readWord_18 rfl (lv_at hl 0 rfl) ?_
    refine w_geti hX hK hH ck6 sh111 8 fi6_8 q4_81 dX6_readWord_19 ?_
    refine lv_icmp_ge (tgt := 281) hx hb dX6_readWord_22 (by decide) (fun hc => ?_) (fun hc => ?_)
    · have hq := hq.1 hc
      refine lv_aload_n hx hb dX6_readWord_281 rfl (lv_at hl 0 rfl) ?_
      refine w_geti hX hK hH ck6 sh111 11 fi6_11 q4_84 dX6_readWord_282 ?_
      exact w_eI hX hr hlk hH hq dX6_readWord_285
    · have hq := hq.2 hc
      refine lv_aload_n hx hb dX6_readWord_25 rfl (lv_at hl 0 rfl) ?_
      refine w_getr hX hK hH ck6 sh111 7 5 116 fr6_7 rfl q4_80 dX6_readWord_26 ?_
      refine lv_iload_n hx hb dX6_readWord_29 rfl (lv_at hl 1 rfl) ?_
      obtain ⟨hc, hq⟩ := hq
      refine w_iald hX hK hH (sf6_7 sh111) hc dX6_readWord_30 ?_
      refine lv_istore_n (lv' := [(2, .int (I 116 (v1).toNatClampNeg)), (0, .ref (b + 111)), (1, .int v1)]) hx hb dX6_readWord_31 rfl hl (by decide) rfl (fun ls hl => ?_)
      refine lv_iload_n hx hb dX6_readWord_32 rfl (lv_at hl 0 rfl) ?_
      refine lv_bipush (v := 40) hx hb dX6_readWord_33 (by decide) ?_
      refine lv_icmp_eq (tgt := 44) hx hb dX6_readWord_35 (by decide) (fun hc => ?_) (fun hc => ?_)
      · have hq := hq.1 hc
        exact s_X6_readWord_44  C0 hK17 v1 _ _ _ _ hq hH (lv_sub hl [1, 2] rfl)
      · have hq := hq.2 hc
        refine lv_iload_n hx hb dX6_readWord_38 rfl (lv_at hl 0 rfl) ?_
        refine lv_bipush (v := 91) hx hb dX6_readWord_39 (by decide) ?_
        refine lv_icmp_ne (tgt := 70) hx hb dX6_readWord_41 (by decide) (fun hc => ?_) (fun hc => ?_)
        · have hq := hq.1 hc
          refine lv_iload_n hx hb dX6_readWord_70 rfl (lv_at hl 0 rfl) ?_
          refine lv_bipush (v := 44) hx hb dX6_readWord_71 (by decide) ?_
          refine lv_icmp_ne (tgt := 94) hx hb dX6_readWord_73 (by decide) (fun hc => ?_) (fun hc => ?_)
          · have hq := hq.1 hc
            refine lv_iload_n hx hb dX6_readWord_94 rfl (lv_at hl 0 rfl) ?_
            refine lv_bipush (v := 41) hx hb dX6_readWord_95 (by decide) ?_
            refine lv_icmp_ne (tgt := 171) hx hb dX6_readWord_97 (by decide) (fun hc => ?_) (fun hc => ?_)
            · have hq := hq.1 hc
              refine lv_iload_n hx hb dX6_readWord_171 rfl (lv_at hl 0 rfl) ?_
              refine lv_bipush (v := 93) hx hb dX6_readWord_172 (by decide) ?_
              refine lv_icmp_ne (tgt := 233) hx hb dX6_readWord_174 (by decide) (fun hc => ?_) (fun hc => ?_)
              · have hq := hq.1 hc
                refine lv_aload_n hx hb dX6_readWord_233 rfl (lv_at hl 1 rfl) ?_
                refine lv_iload_n hx hb dX6_readWord_234 rfl (lv_at hl 0 rfl) ?_
                refine lv_bipush (v := 97) hx hb dX6_readWord_235 (by decide) ?_
                refine lv_bipush (v := 101) hx hb dX6_readWord_237 (by decide) ?_
                obtain ⟨hp, hq⟩ := hq
                refine w_cIp hH (w_rS (As := [.int (I 116 (v1).toNatClampNeg), .int (97 : Int32), .int (101 : Int32)]) (rest := [.ref (b + 111)]) hX hK hE hH (c_X6_in  _ _ _ _ hp) q4_168 q4_169 q1_7 q4_170 hd_X6_in.2 ⟨Nat.le_of_ble_eq_true rfl, Nat.le_of_ble_eq_true rfl⟩ ⟨rfl, rfl⟩ rfl hl.1 rfl (Nat.le_of_ble_eq_true rfl) dX6_readWord_239 ⟨Nat.zero_le _, Nat.zero_le _⟩) (fun r1  H locs hpo hH => ?_)
                have hq := hq r1  hpo
                refine lv_if_eq (tgt := 252) hx hb dX6_readWord_242 (by decide) (fun hc => ?_) (fun hc => ?_)
                · have hq := hq.1 hc
                  refine lv_iconst (v := 5) hx hb dX6_readWord_252 (by decide) ?_
                  refine lv_iload_n hx hb dX6_readWord_253 rfl (lv_at hl 0 rfl) ?_
                  refine lv_iadd hx hb dX6_readWord_254 ?_
                  refine lv_bipush (v := 65) hx hb dX6_readWord_255 (by decide) ?_
                  refine lv_isub hx hb dX6_readWord_257 ?_
                  exact s_X6_readWord_258  C0 hK17 v1 (((5 : Int32) + (I 116 (v1).toNatClampNeg)) - (65 : Int32)) _ _ _ _ hq hH (lv_sub hl [1, 2] rfl)
                · have hq := hq.2 hc
                  refine lv_iload_n hx hb dX6_readWord_245 rfl (lv_at hl 0 rfl) ?_
                  refine lv_bipush (v := 97) hx hb dX6_readWord_246 (by decide) ?_
                  refine lv_isub hx hb dX6_readWord_248 ?_
                  refine lv_goto (tgt := 258) hx hb dX6_readWord_249 (by decide) ?_
                  exact s_X6_readWord_258  C0 hK17 v1 ((I 116 (v1).toNatClampNeg) - (97 : Int32)) _ _ _ _ hq hH (lv_sub hl [1, 2] rfl)
              · have hq := hq.2 hc
                refine lv_aload_n hx hb dX6_readWord_177 rfl (lv_at hl 1 rfl) ?_
                refine lv_dup hx hb dX6_readWord_178 rfl ?_
                refine w_geti hX hK hH ck6 sh111 18 fi6_18 q4_91 dX6_readWord_179 ?_
                refine lv_iconst (v := 1) hx hb dX6_readWord_182 (by decide) ?_
                refine lv_isub hx hb dX6_readWord_183 ?_
                refine w_puti hX hK hH ck6 sh111 18 fw6_18 q4_91 dX6_readWord_184 (fun I2 H locs hI hH => ?_)
                have hq := hq I2 hI
                refine lv_aload_n hx hb dX6_readWord_187 rfl (lv_at hl 1 rfl) ?_
                refine w_geti hX hK hH ck6 sh111 11 fi6_11 q4_84 dX6_readWord_188 ?_
                refine lv_istore_n (lv' := [(3, .int (I2 111 11)), (2, .int (I 116 (v1).toNatClampNeg)), (0, .ref (b + 111)), (1, .int v1)]) hx hb dX6_readWord_191 rfl hl (by decide) rfl (fun ls hl => ?_)
                refine lv_aload_n hx hb dX6_readWord_192 rfl (lv_at hl 2 rfl) ?_
                refine lv_aload_n hx hb dX6_readWord_193 rfl (lv_at hl 2 rfl) ?_
                refine w_getr hX hK hH ck6 sh111 14 9 120 fr6_14 rfl q4_87 dX6_readWord_194 ?_
                refine lv_aload_n hx hb dX6_readWord_197 rfl (lv_at hl 2 rfl) ?_
                refine w_geti hX hK hH ck6 sh111 18 fi6_18 q4_91 dX6_readWord_198 ?_
                obtain ⟨hc, hq⟩ := hq
                refine w_iald hX hK hH (sf6_14 sh111) hc dX6_readWord_201 ?_
                refine lv_aload_n hx hb dX6_readWord_202 rfl (lv_at hl 2 rfl) ?_
                refine w_getr hX hK hH ck6 sh111 15 10 121 fr6_15 rfl q4_88 dX6_readWord_203 ?_
                refine lv_aload_n hx hb dX6_readWord_206 rfl (lv_at hl 2 rfl) ?_
                refine w_geti hX hK hH ck6 sh111 18 fi6_18 q4_91 dX6_readWord_207 ?_
                obtain ⟨hc, hq⟩ := hq
                refine w_iald hX hK hH (sf6_15 sh111) hc dX6_readWord_210 ?_
                refine lv_iconst (v := 1) hx hb dX6_readWord_211 (by decide) ?_
                obtain ⟨hp, hq⟩ := hq
                refine w_cV hH (w_rV (As := [.int (I2 120 ((I2 111 18)).toNatClampNeg), .int (I2 121 ((I2 111 18)).toNatClampNeg), .int (1 : Int32)]) (rest := []) hX hK hE hH (c_X6_addAgain  _ _ _ _ hp) ck6 sh111 q4_230 q4_232 qs43 q1_7 q4_233 hd_X6_addAgain ⟨Nat.le_of_ble_eq_true rfl, Nat.le_of_ble_eq_true rfl⟩ ⟨rfl, rfl⟩ rfl hl.1 rfl (Nat.le_of_ble_eq_true rfl) dX6_readWord_212 ⟨Nat.zero_le _, Nat.zero_le _⟩) (fun  I3 H locs hpo hH => ?_)
                have hq := hq  I3 hpo
                refine lv_aload_n hx hb dX6_readWord_215 rfl (lv_at hl 2 rfl) ?_
                refine lv_aload_n hx hb dX6_readWord_216 rfl (lv_at hl 2 rfl) ?_
                refine w_getr hX hK hH ck6 sh111 15 10 121 fr6_15 rfl q4_88 dX6_readWord_217 ?_
                refine lv_aload_n hx hb dX6_readWord_220 rfl (lv_at hl 2 rfl) ?_
                refine w_geti hX hK hH ck6 sh111 18 fi6_18 q4_91 dX6_readWord_221 ?_
                obtain ⟨hc, hq⟩ := hq
                refine w_iald hX hK hH (sf6_15 sh111) hc dX6_readWord_224 ?_
                refine lv_iload_n hx hb dX6_readWord_225 rfl (lv_at hl 0 rfl) ?_
                refine lv_iconst (v := 1) hx hb dX6_readWord_226 (by decide) ?_
                obtain ⟨hp, hq⟩ := hq
                refine w_cV hH (w_rV (As := [.int (I3 121 ((I3 111 18)).toNatClampNeg), .int (I2 111 11), .int (1 : Int32)]) (rest := []) hX hK hE hH (c_X6_addAgain  _ _ _ _ hp) ck6 sh111 q4_230 q4_232 qs43 q1_7 q4_233 hd_X6_addAgain ⟨Nat.le_of_ble_eq_true rfl, Nat.le_of_ble_eq_true rfl⟩ ⟨rfl, rfl⟩ rfl hl.1 rfl (Nat.le_of_ble_eq_true rfl) dX6_readWord_227 ⟨Nat.zero_le _, Nat.zero_le _⟩) (fun  I4 H locs hpo hH => ?_)
                have hq := hq  I4 hpo
                refine lv_goto (tgt := 261) hx hb dX6_readWord_230 (by decide) ?_
                exact s_X6_readWord_261  C0 hK17 v1 _ _ _ _ hq hH (lv_sub hl [2, 3] rfl)
            · have hq := hq.2 hc
              refine lv_aload_n hx hb dX6_readWord_100 rfl (lv_at hl 1 rfl) ?_
              refine lv_dup hx hb dX6_readWord_101 rfl ?_
              refine w_geti hX hK hH ck6 sh111 18 fi6_18 q4_91 dX6_readWord_102 ?_
              refine lv_iconst (v := 1) hx hb dX6_readWord_105 (by decide) ?_
              refine lv_isub hx hb dX6_readWord_106 ?_
              refine w_puti hX hK hH ck6 sh111 18 fw6_18 q4_91 dX6_readWord_107 (fun I5 H locs hI hH => ?_)
              have hq := hq I5 hI
              refine lv_aload_n hx hb dX6_readWord_110 rfl (lv_at hl 1 rfl) ?_
              refine w_geti hX hK hH ck6 sh111 11 fi6_11 q4_84 dX6_readWord_111 ?_
              refine lv_istore_n (lv' := [(3, .int (I5 111 11)), (2, .int (I 116 (v1).toNatClampNeg)), (0, .ref (b + 111)), (1, .int v1)]) hx hb dX6_readWord_114 rfl hl (by decide) rfl (fun ls hl => ?_)
              refine lv_aload_n hx hb dX6_readWord_115 rfl (lv_at hl 2 rfl) ?_
              refine w_getr hX hK hH ck6 sh111 7 5 116 fr6_7 rfl q4_80 dX6_readWord_116 ?_
              refine lv_iload_n hx hb dX6_readWord_119 rfl (lv_at hl 3 rfl) ?_
              refine lv_iconst (v := 1) hx hb dX6_readWord_120 (by decide) ?_
              refine lv_iadd hx hb dX6_readWord_121 ?_
              obtain ⟨hc, hq⟩ := hq
              refine w_iald hX hK hH (sf6_7 sh111) hc dX6_readWord_122 ?_
              refine lv_bipush (v := 48) hx hb dX6_readWord_123 (by decide) ?_
              refine lv_isub hx hb dX6_readWord_125 ?_
              refine lv_istore (lv' := [(4, .int ((I5 116 ((v1 + (1 : Int32))).toNatClampNeg) - (48 : Int32))), (3, .int (I5 111 11)), (2, .int (I 116 (v1).toNatClampNeg)), (0, .ref (b + 111)), (1, .int v1)]) hx hb dX6_readWord_126 hl (by decide) rfl (fun ls hl => ?_)
              obtain ⟨f, hq⟩ := hq
              exact s_X6_readWord_128  C0 hK17 f v1 (I5 111 11) ((I5 116 ((v1 + (1 : Int32))).toNatClampNeg) - (48 : Int32)) _ _ _ _ hq hH (lv_sub hl [3, 4, 1, 0] rfl)
          · have hq := hq.2 hc
            refine lv_aload_n hx hb dX6_readWord_76 rfl (lv_at hl 1 rfl) ?_
            refine w_getr hX hK hH ck6 sh111 15 10 121 fr6_15 rfl q4_88 dX6_readWord_77 ?_
            refine lv_aload_n hx hb dX6_readWord_80 rfl (lv_at hl 1 rfl) ?_
            refine w_geti hX hK hH ck6 sh111 18 fi6_18 q4_91 dX6_readWord_81 ?_
            refine lv_iconst (v := 1) hx hb dX6_readWord_84 (by decide) ?_
            refine lv_isub hx hb dX6_readWord_85 ?_
            refine lv_aload_n hx hb dX6_readWord_86 rfl (lv_at hl 1 rfl) ?_
            refine w_geti hX hK hH ck6 sh111 11 fi6_11 q4_84 dX6_readWord_87 ?_
            obtain ⟨hc, hq⟩ := hq
            refine w_iast hX hK hH (sf6_15 sh111) hc dX6_readWord_90 (fun I6 H locs hI hH => ?_)
            have hq := hq I6 hI
            refine lv_goto (tgt := 261) hx hb dX6_readWord_91 (by decide) ?_
            exact s_X6_readWord_261  C0 hK17 v1 _ _ _ _ hq hH (lv_sub hl [1, 2] rfl)
        · have hq := hq.2 hc
          exact s_X6_readWord_44  C0 hK17 v1 _ _ _ _ hq hH (lv_sub hl [1, 2] rfl)
set_option maxRecDepth 100000 in
set_option maxHeartbeats 4000000 in
theorem c_X6_readWord {l : Launch} {D : va_G} {cs : wC4} {ad : Nat → Nat} {b : Nat} {G : wG}  (I : wI) (hp : pre_X6_readWord  I) : Met l yX6_readWord (ws_ yX6_readWord cX6_readWord 5 (some .int)) rm_X6_readWord (va_Pc [.ref (b + 111)] (wPr D cs ad b G I)) (va_Qi (fun r I' => post_X6_readWord  I r I') (wPo D cs b G) (fun q => b ≤ q)) 0 0 (fun q => b ≤ q) := by
  have hq := vc_X6_readWord  I hp
  refine w_met (by decide) (Nat.le_of_ble_eq_true rfl) ?_
  intro p e s m below meth c hX hr hlk hK hE hH ls hl
  have C0 : wCx p m c s _ meth cX6_readWord 5 RX6 (some .int) D cs ad b := ⟨hX, hr, hlk, hK, hE⟩
  have hX : CallFix p m c cX6_readWord 5 s _ lw_all RX6 := hX
  have hx := hX.1
  have hb := hX.2.1
  have hown := hX.2.2.2.1
  have hts := hX.2.2.2.2
  have hl : lv_has ls 5 [(0, .ref (b + 111))] := hl
  unfold v_X6_readWord at hq
  refine lv_aload_n hx hb dX6_readWord_0 rfl (lv_at hl 0 rfl) ?_
  refine lv_iconst (v := 0) hx hb dX6_readWord_1 (by decide) ?_
  refine w_puti hX hK hH ck6 sh111 11 fw6_11 q4_84 dX6_readWord_2 (fun I1 H locs hI hH => ?_)
  have hq := hq I1 hI
  refine lv_aload_n hx hb dX6_readWord_5 rfl (lv_at hl 0 rfl) ?_
  refine lv_iconst (v := 0) hx hb dX6_readWord_6 (by decide) ?_
  refine w_puti hX hK hH ck6 sh111 12 fw6_12 q4_85 dX6_readWord_7 (fun I2 H locs hI hH => ?_)
  have hq := hq I2 hI
  refine lv_aload_n hx hb dX6_readWord_10 rfl (lv_at hl 0 rfl) ?_
  refine lv_iconst (v := 0) hx hb dX6_readWord_11 (by decide) ?_
  refine w_puti hX hK hH ck6 sh111 18 fw6_18 q4_91 dX6_readWord_12 (fun I3 H locs hI hH => ?_)
  have hq := hq I3 hI
  refine lv_iconst (v := 0) hx hb dX6_readWord_15 (by decide) ?_
  refine lv_istore_n (lv' := [(1, .int (0 : Int32)), (0, .ref (b + 111))]) hx hb dX6_readWord_16 rfl hl (by decide) rfl (fun ls hl => ?_)
  obtain ⟨f, hq⟩ := hq
  exact s_X6_readWord_17  C0  f (0 : Int32) _ _ _ _ hq hH (lv_sub hl [1, 0] rfl)
abbrev rm_X6_word : Room := { frames := 4, cells := 0, slots := 0, locals := 96 }
theorem hd_X6_word : yX6_word.cls = RX6 ∧ yX6_word.cls ≠ "java/lang/invoke/MethodHandle" ∧ yX6_word.cls ≠ "java/lang/invoke/VarHandle" ∧ (parseMethodDescriptor yX6_word.desc).map (fun d => d.parameters.length) = some 0 := by decide +kernel
set_option maxRecDepth 100000 in
set_option maxHeartbeats 4000000 in
theorem s_X6_word_84 {Q : Int32 → wI → Prop} (C0 : wCx p m c s args meth cX6_word 2 RX6 (some .int) D cs ad b) : ∀ (v1 : Int32) (I : wI) (H : Heap) (locs : List Loc) (ls : Array Slot), v_X6_word_84 Q v1 I → wH D cs b G I s H locs → lv_has ls 2 [(0, .ref (b + 111)), (1, .int v1)] → W p l e rm_X6_word s m args below meth c H locs 0 0 (MQ below (va_Qi (Q) (wPo D cs b G) (fun q => b ≤ q)) args s 0 0 (fun q => b ≤ q)) (F0 m 84 ls []) := by
  obtain ⟨hX, hr, hlk, hK, hE⟩ := id C0
  have hx := hX.1
  have hb := hX.2.1
  have hown := hX.2.2.2.1
  have hts := hX.2.2.2.2
  intro v1 I H locs ls hq hH hl
  unfold v_X6_word_84 at hq
  refine lv_aload_n hx hb dX6_word_84 rfl (lv_at hl 0 rfl) ?_
  refine lv_iconst (v := 0) hx hb dX6_word_85 (by decide) ?_
  refine w_puti hX hK hH ck6 sh111 8 fw6_8 q4_81 dX6_word_86 (fun I1 H locs hI hH => ?_)
  have hq := hq I1 hI
  refine lv_iload_n hx hb dX6_word_89 rfl (lv_at hl 1 rfl) ?_
  exact w_eI hX hr hlk hH hq dX6_word_90
set_option maxRecDepth 100000 in
set_option maxHeartbeats 4000000 in
theorem s_X6_word_45 {Q : Int32 → wI → Prop} (C0 : wCx p m c s args meth cX6_word 2 RX6 (some .int) D cs ad b) : ∀ (f : Nat) (v1 : Int32) (I : wI) (H : Heap) (locs : List Loc) (ls : Array Slot), v_X6_word_45 Q f v1 I → wH D cs b G I s H locs → lv_has ls 2 [(0, .ref (b + 111)), (1, .int v1)] → W p l e rm_X6_word s m args below meth c H locs 0 0 (MQ below (va_Qi (Q) (wPo D cs b G) (fun q => b ≤ q)) args s 0 0 (fun q => b ≤ q)) (F0 m 45 ls []) := by
  obtain ⟨hX, hr, hlk, hK, hE⟩ := id C0
  have hx := hX.1
  have hb := hX.2.1
  have hown := hX.2.2.2.1
  have hts := hX.2.2.2.2
  intro f
  induction f with
  | zero =>
    intro v1 I H locs ls hq
    exact hq.elim
  | succ f hK45 =>
    intro v1 I H locs ls hq hH hl
    have hq : g_X6_word_45 Q (v_X6_word_45 Q f) v1 I := hq
    unfold g_X6_word_45 at hq
    refine lv_iload_n hx hb dX6_word_45 rfl (lv_at hl 1 rfl) ?_
    refine lv_aload_n hx hb dX6_word_46 rfl (lv_at hl 0 rfl) ?_
    refine w_geti hX hK hH ck6 sh111 11 fi6_11 q4_84 dX6_word_47 ?_
    refine lv_icmp_ge (tgt := 84) hx hb dX6_word_50 (by decide) (fun hc => ?_) (fun hc => ?_)
    · have hq := hq.1 hc
      exact s_X6_word_84  C0  v1 _ _ _ _ hq hH (lv_sub hl [0, 1] rfl)
    · have hq := hq.2 hc
      refine lv_aload_n hx hb dX6_word_53 rfl (lv_at hl 0 rfl) ?_
      refine lv_aload_n hx hb dX6_word_54 rfl (lv_at hl 0 rfl) ?_
      refine w_getr hX hK hH ck6 sh111 10 7 118 fr6_10 rfl q4_83 dX6_word_55 ?_
      refine lv_iload_n hx hb dX6_word_58 rfl (lv_at hl 1 rfl) ?_
      obtain ⟨hc, hq⟩ := hq
      refine w_iald hX hK hH (sf6_10 sh111) hc dX6_word_59 ?_
      refine lv_iconst (v := 5) hx hb dX6_word_60 (by decide) ?_
      refine lv_irem hx hb dX6_word_61 (by decide) ?_
      obtain ⟨hp, hq⟩ := hq
      refine w_cIp hH (w_rV (As := [.int ((I 118 (v1).toNatClampNeg) - (I 118 (v1).toNatClampNeg) / (5 : Int32) * (5 : Int32))]) (rest := []) hX hK hE hH (c_X6_isStuck  _ _ hp) ck6 sh111 q4_171 q4_173 qs31 q1_7 q4_174 hd_X6_isStuck ⟨Nat.le_of_ble_eq_true rfl, Nat.le_of_ble_eq_true rfl⟩ ⟨rfl, rfl⟩ rfl hl.1 rfl (Nat.le_of_ble_eq_true rfl) dX6_word_62 ⟨Nat.zero_le _, Nat.zero_le _⟩) (fun r1  H locs hpo hH => ?_)
      have hq := hq r1  hpo
      refine lv_if_ne (tgt := 84) hx hb dX6_word_65 (by decide) (fun hc => ?_) (fun hc => ?_)
      · have hq := hq.1 hc
        exact s_X6_word_84  C0  v1 _ _ _ _ hq hH (lv_sub hl [0, 1] rfl)
      · have hq := hq.2 hc
        refine lv_aload_n hx hb dX6_word_68 rfl (lv_at hl 0 rfl) ?_
        refine lv_aload_n hx hb dX6_word_69 rfl (lv_at hl 0 rfl) ?_
        refine w_getr hX hK hH ck6 sh111 10 7 118 fr6_10 rfl q4_83 dX6_word_70 ?_
        refine lv_iload_n hx hb dX6_word_73 rfl (lv_at hl 1 rfl) ?_
        obtain ⟨hc, hq⟩ := hq
        refine w_iald hX hK hH (sf6_10 sh111) hc dX6_word_74 ?_
        obtain ⟨hp, hq⟩ := hq
        refine w_cV hH (w_rV (As := [.int (I 118 (v1).toNatClampNeg)]) (rest := []) hX hK hE hH (c_X6_countTurn  _ _ hp) ck6 sh111 q4_179 q4_181 qs33 q1_7 q4_182 hd_X6_countTurn ⟨Nat.le_of_ble_eq_true rfl, Nat.le_of_ble_eq_true rfl⟩ ⟨rfl, rfl⟩ rfl hl.1 rfl (Nat.le_of_ble_eq_true rfl) dX6_word_75 ⟨Nat.zero_le _, Nat.zero_le _⟩) (fun  I2 H locs hpo hH => ?_)
        have hq := hq  I2 hpo
        refine lv_iinc (v := (v1 + (1 : Int32))) (lv' := [(1, .int (v1 + (1 : Int32))), (0, .ref (b + 111))]) hx hb dX6_word_78 hl (k := 1) rfl rfl (by decide) rfl (fun ls hl => ?_)
        refine lv_goto (tgt := 45) hx hb dX6_word_81 (by decide) ?_
        exact hK45 (v1 + (1 : Int32)) _ _ _ _ hq hH (lv_sub hl [1, 0] rfl)
set_option maxRecDepth 100000 in
set_option maxHeartbeats 4000000 in
theorem s_X6_word_27 {Q : Int32 → wI → Prop} (C0 : wCx p m c s args meth cX6_word 2 RX6 (some .int) D cs ad b) : ∀ (t0 : Int32) (I : wI) (H : Heap) (locs : List Loc) (ls : Array Slot), v_X6_word_27 Q t0 I → wH D cs b G I s H locs → lv_has ls 2 [(0, .ref (b + 111))] → W p l e rm_X6_word s m args below meth c H locs 0 0 (MQ below (va_Qi (Q) (wPo D cs b G) (fun q => b ≤ q)) args s 0 0 (fun q => b ≤ q)) (F0 m 27 ls [.int t0, .ref (b + 111)]) := by
  obtain ⟨hX, hr, hlk, hK, hE⟩ := id C0
  have hx := hX.1
  have hb := hX.2.1
  have hown := hX.2.2.2.1
  have hts := hX.2.2.2.2
  intro t0 I H locs ls hq hH hl
  unfold v_X6_word_27 at hq
  refine w_puti hX hK hH ck6 sh111 0 fw6_0 q4_73 dX6_word_27 (fun I1 H locs hI hH => ?_)
  have hq := hq I1 hI
  refine lv_aload_n hx hb dX6_word_30 rfl (lv_at hl 0 rfl) ?_
  refine w_geti hX hK hH ck6 sh111 0 fi6_0 q4_73 dX6_word_31 ?_
  refine lv_if_le (tgt := 39) hx hb dX6_word_34 (by decide) (fun hc => ?_) (fun hc => ?_)
  · have hq := hq.1 hc
    refine lv_aload_n hx hb dX6_word_39 rfl (lv_at hl 0 rfl) ?_
    obtain ⟨hp, hq⟩ := hq
    refine w_cV hH (w_rV (As := []) (rest := []) hX hK hE hH (c_X6_record   _ hp) ck6 sh111 q4_153 q4_155 qs29 q1_7 q4_156 hd_X6_record ⟨Nat.le_of_ble_eq_true rfl, Nat.le_of_ble_eq_true rfl⟩ ⟨rfl, rfl⟩ rfl hl.1 rfl (Nat.le_of_ble_eq_true rfl) dX6_word_40 ⟨Nat.zero_le _, Nat.zero_le _⟩) (fun  I2 H locs hpo hH => ?_)
    have hq := hq  I2 hpo
    refine lv_iconst (v := 0) hx hb dX6_word_43 (by decide) ?_
    refine lv_istore_n (lv' := [(1, .int (0 : Int32)), (0, .ref (b + 111))]) hx hb dX6_word_44 rfl hl (by decide) rfl (fun ls hl => ?_)
    obtain ⟨f, hq⟩ := hq
    exact s_X6_word_45  C0  f (0 : Int32) _ _ _ _ hq hH (lv_sub hl [1, 0] rfl)
  · have hq := hq.2 hc
    refine lv_iconst (v := 0) hx hb dX6_word_37 (by decide) ?_
    exact w_eI hX hr hlk hH hq dX6_word_38
set_option maxRecDepth 100000 in
set_option maxHeartbeats 4000000 in
theorem c_X6_word {l : Launch} {D : va_G} {cs : wC4} {ad : Nat → Nat} {b : Nat} {G : wG}  (I : wI) (hp : pre_X6_word  I) : Met l yX6_word (ws_ yX6_word cX6_word 2 (some .int)) rm_X6_word (va_Pc [.ref (b + 111)] (wPr D cs ad b G I)) (va_Qi (fun r I' => post_X6_word  I r I') (wPo D cs b G) (fun q => b ≤ q)) 0 0 (fun q => b ≤ q) := by
  have hq := vc_X6_word  I hp
  refine w_met (by decide) (Nat.le_of_ble_eq_true rfl) ?_
  intro p e s m below meth c hX hr hlk hK hE hH ls hl
  have C0 : wCx p m c s _ meth cX6_word 2 RX6 (some .int) D cs ad b := ⟨hX, hr, hlk, hK, hE⟩
  have hX : CallFix p m c cX6_word 2 s _ lw_all RX6 := hX
  have hx := hX.1
  have hb := hX.2.1
  have hown := hX.2.2.2.1
  have hts := hX.2.2.2.2
  have hl : lv_has ls 2 [(0, .ref (b + 111))] := hl
  unfold v_X6_word at hq
  refine lv_aload_n hx hb dX6_word_0 rfl (lv_at hl 0 rfl) ?_
  refine lv_aload_n hx hb dX6_word_1 rfl (lv_at hl 0 rfl) ?_
  obtain ⟨hp, hq⟩ := hq
  refine w_cI hH (w_rV (As := []) (rest := [.ref (b + 111)]) hX hK hE hH (c_X6_isWhole   _ hp) ck6 sh111 q4_214 q4_216 qs39 q1_7 q4_217 hd_X6_isWhole ⟨Nat.le_of_ble_eq_true rfl, Nat.le_of_ble_eq_true rfl⟩ ⟨rfl, rfl⟩ rfl hl.1 rfl (Nat.le_of_ble_eq_true rfl) dX6_word_2 ⟨Nat.zero_le _, Nat.zero_le _⟩) (fun r1 I2 H locs hpo hH => ?_)
  have hq := hq r1 I2 hpo
  refine lv_if_ne (tgt := 12) hx hb dX6_word_5 (by decide) (fun hc => ?_) (fun hc => ?_)
  · have hq := hq.1 hc
    refine lv_aload_n hx hb dX6_word_12 rfl (lv_at hl 0 rfl) ?_
    obtain ⟨hp, hq⟩ := hq
    refine w_cI hH (w_rV (As := []) (rest := [.ref (b + 111)]) hX hK hE hH (c_X6_readWord   _ hp) ck6 sh111 q4_226 q4_228 qs42 q1_7 q4_229 hd_X6_readWord ⟨Nat.le_of_ble_eq_true rfl, Nat.le_of_ble_eq_true rfl⟩ ⟨rfl, rfl⟩ rfl hl.1 rfl (Nat.le_of_ble_eq_true rfl) dX6_word_13 ⟨Nat.zero_le _, Nat.zero_le _⟩) (fun r3 I4 H locs hpo hH => ?_)
    have hq := hq r3 I4 hpo
    refine lv_sipush (v := 500) hx hb dX6_word_16 (by decide) ?_
    refine lv_icmp_le (tgt := 26) hx hb dX6_word_19 (by decide) (fun hc => ?_) (fun hc => ?_)
    · have hq := hq.1 hc
      refine lv_iconst (v := 0) hx hb dX6_word_26 (by decide) ?_
      exact s_X6_word_27  C0  (0 : Int32) _ _ _ _ hq hH (lv_sub hl [0] rfl)
    · have hq := hq.2 hc
      refine lv_iconst (v := 2) hx hb dX6_word_22 (by decide) ?_
      refine lv_goto (tgt := 27) hx hb dX6_word_23 (by decide) ?_
      exact s_X6_word_27  C0  (2 : Int32) _ _ _ _ hq hH (lv_sub hl [0] rfl)
  · have hq := hq.2 hc
    refine lv_iconst (v := 1) hx hb dX6_word_8 (by decide) ?_
    refine lv_goto (tgt := 27) hx hb dX6_word_9 (by decide) ?_
    exact s_X6_word_27  C0  (1 : Int32) _ _ _ _ hq hH (lv_sub hl [0] rfl)
abbrev rm_X6_away : Room := { frames := 0, cells := 0, slots := 0, locals := 0 }
theorem hd_X6_away : yX6_away.cls = RX6 ∧ yX6_away.cls ≠ "java/lang/invoke/MethodHandle" ∧ yX6_away.cls ≠ "java/lang/invoke/VarHandle" ∧ (parseMethodDescriptor yX6_away.desc).map (fun d => d.parameters.length) = some 0 := by decide +kernel
set_option maxRecDepth 100000 in
set_option maxHeartbeats 4000000 in
theorem s_X6_away_40 {I : wI} {Q : Int32 → Prop} {K4 : Int32 → Int32 → Prop} (C0 : wCx p m c s args meth cX6_away 3 RX6 (some .int) D cs ad b) (hK4 : ∀ (v1 : Int32) (v2 : Int32) (H : Heap) (locs : List Loc) (ls : Array Slot), K4 v1 v2 → wH D cs b G I s H locs → lv_has ls 3 [(0, .ref (b + 111)), (1, .int v1), (2, .int v2)] → W p l e rm_X6_away s m args below meth c H locs 0 0 (MQ below (va_Qi (fun r I' => I' = I ∧ Q r) (wPo D cs b G) (fun q => b ≤ q)) args s 0 0 (fun q => b ≤ q)) (F0 m 4 ls [])) : ∀ (v2 : Int32) (t0 : Int32) (t1 : Int32) (H : Heap) (locs : List Loc) (ls : Array Slot), v_X6_away_40 I Q K4 v2 t0 t1 → wH D cs b G I s H locs → lv_has ls 3 [(0, .ref (b + 111)), (2, .int v2)] → W p l e rm_X6_away s m args below meth c H locs 0 0 (MQ below (va_Qi (fun r I' => I' = I ∧ Q r) (wPo D cs b G) (fun q => b ≤ q)) args s 0 0 (fun q => b ≤ q)) (F0 m 40 ls [.int t0, .int t1]) := by
  obtain ⟨hX, hr, hlk, hK, hE⟩ := id C0
  have hx := hX.1
  have hb := hX.2.1
  have hown := hX.2.2.2.1
  have hts := hX.2.2.2.2
  intro v2 t0 t1 H locs ls hq hH hl
  unfold v_X6_away_40 at hq
  refine lv_iadd hx hb dX6_away_40 ?_
  refine lv_istore_n (lv' := [(1, .int (t1 + t0)), (0, .ref (b + 111)), (2, .int v2)]) hx hb dX6_away_41 rfl hl (by decide) rfl (fun ls hl => ?_)
  refine lv_iinc (v := (v2 + (1 : Int32))) (lv' := [(2, .int (v2 + (1 : Int32))), (1, .int (t1 + t0)), (0, .ref (b + 111))]) hx hb dX6_away_42 hl (k := 2) rfl rfl (by decide) rfl (fun ls hl => ?_)
  refine lv_goto (tgt := 4) hx hb dX6_away_45 (by decide) ?_
  exact hK4 (t1 + t0) (v2 + (1 : Int32)) _ _ _ hq hH (lv_sub hl [2, 1, 0] rfl)
set_option maxRecDepth 100000 in
set_option maxHeartbeats 4000000 in
theorem s_X6_away_35 {I : wI} {Q : Int32 → Prop} {K4 : Int32 → Int32 → Prop} (C0 : wCx p m c s args meth cX6_away 3 RX6 (some .int) D cs ad b) (hK4 : ∀ (v1 : Int32) (v2 : Int32) (H : Heap) (locs : List Loc) (ls : Array Slot), K4 v1 v2 → wH D cs b G I s H locs → lv_has ls 3 [(0, .ref (b + 111)), (1, .int v1), (2, .int v2)] → W p l e rm_X6_away s m args below meth c H locs 0 0 (MQ below (va_Qi (fun r I' => I' = I ∧ Q r) (wPo D cs b G) (fun q => b ≤ q)) args s 0 0 (fun q => b ≤ q)) (F0 m 4 ls [])) : ∀ (v2 : Int32) (t0 : Int32) (H : Heap) (locs : List Loc) (ls : Array Slot), v_X6_away_35 I Q K4 v2 t0 → wH D cs b G I s H locs → lv_has ls 3 [(0, .ref (b + 111)), (2, .int v2)] → W p l e rm_X6_away s m args below meth c H locs 0 0 (MQ below (va_Qi (fun r I' => I' = I ∧ Q r) (wPo D cs b G) (fun q => b ≤ q)) args s 0 0 (fun q => b ≤ q)) (F0 m 35 ls [.int t0]) := by
  obtain ⟨hX, hr, hlk, hK, hE⟩ := id C0
  have hx := hX.1
  have hb := hX.2.1
  have hown := hX.2.2.2.1
  have hts := hX.2.2.2.2
  intro v2 t0 H locs ls hq hH hl
  unfold v_X6_away_35 at hq
  refine lv_iconst (v := 1) hx hb dX6_away_35 (by decide) ?_
  refine lv_goto (tgt := 40) hx hb dX6_away_36 (by decide) ?_
  exact s_X6_away_40  C0 hK4 v2 (1 : Int32) t0 _ _ _ hq hH (lv_sub hl [0, 1] rfl)
set_option maxRecDepth 100000 in
set_option maxHeartbeats 4000000 in
theorem s_X6_away_4 {I : wI} {Q : Int32 → Prop} (C0 : wCx p m c s args meth cX6_away 3 RX6 (some .int) D cs ad b) : ∀ (f : Nat) (v1 : Int32) (v2 : Int32) (H : Heap) (locs : List Loc) (ls : Array Slot), v_X6_away_4 I Q f v1 v2 → wH D cs b G I s H locs → lv_has ls 3 [(0, .ref (b + 111)), (1, .int v1), (2, .int v2)] → W p l e rm_X6_away s m args below meth c H locs 0 0 (MQ below (va_Qi (fun r I' => I' = I ∧ Q r) (wPo D cs b G) (fun q => b ≤ q)) args s 0 0 (fun q => b ≤ q)) (F0 m 4 ls []) := by
  obtain ⟨hX, hr, hlk, hK, hE⟩ := id C0
  have hx := hX.1
  have hb := hX.2.1
  have hown := hX.2.2.2.1
  have hts := hX.2.2.2.2
  intro f
  induction f with
  | zero =>
    intro v1 v2 H locs ls hq
    exact hq.elim
  | succ f hK4 =>
    intro v1 v2 H locs ls hq hH hl
    have hq : g_X6_away_4 I Q (v_X6_away_4 I Q f) v1 v2 := hq
    unfold g_X6_away_4 at hq
    refine lv_iload_n hx hb dX6_away_4 rfl (lv_at hl 2 rfl) ?_
    refine lv_bipush (v := 6) hx hb dX6_away_5 (by decide) ?_
    refine lv_icmp_ge (tgt := 48) hx hb dX6_away_7 (by decide) (fun hc => ?_) (fun hc => ?_)
    · have hq := hq.1 hc
      refine lv_iload_n hx hb dX6_away_48 rfl (lv_at hl 1 rfl) ?_
      exact w_eI hX hr hlk hH ⟨rfl, hq⟩ dX6_away_49
    · have hq := hq.2 hc
      refine lv_iload_n hx hb dX6_away_10 rfl (lv_at hl 1 rfl) ?_
      refine lv_aload_n hx hb dX6_away_11 rfl (lv_at hl 0 rfl) ?_
      refine w_getr hX hK hH ck6 sh111 1 1 112 fr6_1 rfl q4_74 dX6_away_12 ?_
      refine lv_iconst (v := 0) hx hb dX6_away_15 (by decide) ?_
      refine lv_iload_n hx hb dX6_away_16 rfl (lv_at hl 2 rfl) ?_
      refine lv_iadd hx hb dX6_away_17 ?_
      obtain ⟨hc, hq⟩ := hq
      refine w_iald hX hK hH (sf6_1 sh111) hc dX6_away_18 ?_
      refine lv_iload_n hx hb dX6_away_19 rfl (lv_at hl 2 rfl) ?_
      refine lv_icmp_ne (tgt := 35) hx hb dX6_away_20 (by decide) (fun hc => ?_) (fun hc => ?_)
      · have hq := hq.1 hc
        exact s_X6_away_35  C0 hK4 v2 v1 _ _ _ hq hH (lv_sub hl [0, 2] rfl)
      · have hq := hq.2 hc
        refine lv_aload_n hx hb dX6_away_23 rfl (lv_at hl 0 rfl) ?_
        refine w_getr hX hK hH ck6 sh111 1 1 112 fr6_1 rfl q4_74 dX6_away_24 ?_
        refine lv_bipush (v := 6) hx hb dX6_away_27 (by decide) ?_
        refine lv_iload_n hx hb dX6_away_29 rfl (lv_at hl 2 rfl) ?_
        refine lv_iadd hx hb dX6_away_30 ?_
        obtain ⟨hc, hq⟩ := hq
        refine w_iald hX hK hH (sf6_1 sh111) hc dX6_away_31 ?_
        refine lv_if_eq (tgt := 39) hx hb dX6_away_32 (by decide) (fun hc => ?_) (fun hc => ?_)
        · have hq := hq.1 hc
          refine lv_iconst (v := 0) hx hb dX6_away_39 (by decide) ?_
          exact s_X6_away_40  C0 hK4 v2 (0 : Int32) v1 _ _ _ hq hH (lv_sub hl [0, 2] rfl)
        · have hq := hq.2 hc
          exact s_X6_away_35  C0 hK4 v2 v1 _ _ _ hq hH (lv_sub hl [0, 2] rfl)
set_option maxRecDepth 100000 in
set_option maxHeartbeats 4000000 in
theorem c_X6_away {l : Launch} {D : va_G} {cs : wC4} {ad : Nat → Nat} {b : Nat} {G : wG}  (I : wI) (hp : pre_X6_away  I) : Met l yX6_away (ws_ yX6_away cX6_away 3 (some .int)) rm_X6_away (va_Pc [.ref (b + 111)] (wPr D cs ad b G I)) (va_Qi (fun r I' => I' = I ∧ post_X6_away  I r) (wPo D cs b G) (fun q => b ≤ q)) 0 0 (fun q => b ≤ q) := by
  have hq := vc_X6_away  I hp
  refine w_met (by decide) (Nat.le_of_ble_eq_true rfl) ?_
  intro p e s m below meth c hX hr hlk hK hE hH ls hl
  have C0 : wCx p m c s _ meth cX6_away 3 RX6 (some .int) D cs ad b := ⟨hX, hr, hlk, hK, hE⟩
  have hX : CallFix p m c cX6_away 3 s _ lw_all RX6 := hX
  have hx := hX.1
  have hb := hX.2.1
  have hown := hX.2.2.2.1
  have hts := hX.2.2.2.2
  have hl : lv_has ls 3 [(0, .ref (b + 111))] := hl
  unfold v_X6_away at hq
  refine lv_iconst (v := 0) hx hb dX6_away_0 (by decide) ?_
  refine lv_istore_n (lv' := [(1, .int (0 : Int32)), (0, .ref (b + 111))]) hx hb dX6_away_1 rfl hl (by decide) rfl (fun ls hl => ?_)
  refine lv_iconst (v := 0) hx hb dX6_away_2 (by decide) ?_
  refine lv_istore_n (lv' := [(2, .int (0 : Int32)), (1, .int (0 : Int32)), (0, .ref (b + 111))]) hx hb dX6_away_3 rfl hl (by decide) rfl (fun ls hl => ?_)
  obtain ⟨f, hq⟩ := hq
  exact s_X6_away_4  C0  f (0 : Int32) (0 : Int32) _ _ _ hq hH (lv_sub hl [2, 1, 0] rfl)
abbrev rm_X6_home : Room := { frames := 1, cells := 0, slots := 0, locals := 22 }
theorem hd_X6_home : yX6_home.cls = RX6 ∧ yX6_home.cls ≠ "java/lang/invoke/MethodHandle" ∧ yX6_home.cls ≠ "java/lang/invoke/VarHandle" ∧ (parseMethodDescriptor yX6_home.desc).map (fun d => d.parameters.length) = some 0 := by decide +kernel
set_option maxRecDepth 100000 in
set_option maxHeartbeats 4000000 in
theorem c_X6_home {l : Launch} {D : va_G} {cs : wC4} {ad : Nat → Nat} {b : Nat} {G : wG}  (I : wI) (hp : pre_X6_home  I) : Met l yX6_home (ws_ yX6_home cX6_home 2 (some .int)) rm_X6_home (va_Pc [.ref (b + 111)] (wPr D cs ad b G I)) (va_Qi (fun r I' => post_X6_home  I r I') (wPo D cs b G) (fun q => b ≤ q)) 0 0 (fun q => b ≤ q) := by
  have hq := vc_X6_home  I hp
  refine w_met (by decide) (Nat.le_of_ble_eq_true rfl) ?_
  intro p e s m below meth c hX hr hlk hK hE hH ls hl
  have C0 : wCx p m c s _ meth cX6_home 2 RX6 (some .int) D cs ad b := ⟨hX, hr, hlk, hK, hE⟩
  have hX : CallFix p m c cX6_home 2 s _ lw_all RX6 := hX
  have hx := hX.1
  have hb := hX.2.1
  have hown := hX.2.2.2.1
  have hts := hX.2.2.2.2
  have hl : lv_has ls 2 [(0, .ref (b + 111))] := hl
  unfold v_X6_home at hq
  refine lv_aload_n hx hb dX6_home_0 rfl (lv_at hl 0 rfl) ?_
  refine lv_iconst (v := 0) hx hb dX6_home_1 (by decide) ?_
  refine w_puti hX hK hH ck6 sh111 0 fw6_0 q4_73 dX6_home_2 (fun I1 H locs hI hH => ?_)
  have hq := hq I1 hI
  refine lv_aload_n hx hb dX6_home_5 rfl (lv_at hl 0 rfl) ?_
  obtain ⟨hp, hq⟩ := hq
  refine w_cV hH (w_rV (As := []) (rest := []) hX hK hE hH (c_X6_record   _ hp) ck6 sh111 q4_153 q4_155 qs29 q1_7 q4_156 hd_X6_record ⟨Nat.le_of_ble_eq_true rfl, Nat.le_of_ble_eq_true rfl⟩ ⟨rfl, rfl⟩ rfl hl.1 rfl (Nat.le_of_ble_eq_true rfl) dX6_home_6 ⟨Nat.zero_le _, Nat.zero_le _⟩) (fun  I2 H locs hpo hH => ?_)
  have hq := hq  I2 hpo
  refine lv_aload_n hx hb dX6_home_9 rfl (lv_at hl 0 rfl) ?_
  obtain ⟨hp, hq⟩ := hq
  refine w_cIp hH (w_rV (As := []) (rest := []) hX hK hE hH (c_X6_away   _ hp) ck6 sh111 q5_2 q5_4 qs45 q1_7 q5_5 hd_X6_away ⟨Nat.le_of_ble_eq_true rfl, Nat.le_of_ble_eq_true rfl⟩ ⟨rfl, rfl⟩ rfl hl.1 rfl (Nat.le_of_ble_eq_true rfl) dX6_home_10 ⟨Nat.zero_le _, Nat.zero_le _⟩) (fun r3  H locs hpo hH => ?_)
  have hq := hq r3  hpo
  refine lv_istore_n (lv' := [(1, .int r3), (0, .ref (b + 111))]) hx hb dX6_home_13 rfl hl (by decide) rfl (fun ls hl => ?_)
  refine lv_aload_n hx hb dX6_home_14 rfl (lv_at hl 1 rfl) ?_
  obtain ⟨hp, hq⟩ := hq
  refine w_cV hH (w_rV (As := []) (rest := []) hX hK hE hH (c_X6_toFirst   _ hp) ck6 sh111 q5_6 q5_8 qs46 q1_7 q5_9 hd_X6_toFirst ⟨Nat.le_of_ble_eq_true rfl, Nat.le_of_ble_eq_true rfl⟩ ⟨rfl, rfl⟩ rfl hl.1 rfl (Nat.le_of_ble_eq_true rfl) dX6_home_15 ⟨Nat.zero_le _, Nat.zero_le _⟩) (fun  I4 H locs hpo hH => ?_)
  have hq := hq  I4 hpo
  refine lv_aload_n hx hb dX6_home_18 rfl (lv_at hl 1 rfl) ?_
  refine w_getr hX hK hH ck6 sh111 1 1 112 fr6_1 rfl q4_74 dX6_home_19 ?_
  refine lv_bipush (v := 34) hx hb dX6_home_22 (by decide) ?_
  refine lv_iconst (v := 0) hx hb dX6_home_24 (by decide) ?_
  obtain ⟨hc, hq⟩ := hq
  refine w_iast hX hK hH (sf6_1 sh111) hc dX6_home_25 (fun I5 H locs hI hH => ?_)
  have hq := hq I5 hI
  refine lv_iload_n hx hb dX6_home_26 rfl (lv_at hl 0 rfl) ?_
  exact w_eI hX hr hlk hH hq dX6_home_27
abbrev rm_X6_cut : Room := { frames := 2, cells := 0, slots := 0, locals := 42 }
theorem hd_X6_cut : yX6_cut.cls = RX6 ∧ yX6_cut.cls ≠ "java/lang/invoke/MethodHandle" ∧ yX6_cut.cls ≠ "java/lang/invoke/VarHandle" ∧ (parseMethodDescriptor yX6_cut.desc).map (fun d => d.parameters.length) = some 3 := by decide +kernel
set_option maxRecDepth 100000 in
set_option maxHeartbeats 4000000 in
theorem s_X6_cut_56 {x1 : Int32} {x2 : Int32} {x3 : Int32} {Q : Int32 → wI → Prop} (C0 : wCx p m c s args meth cX6_cut 6 RX6 (some .int) D cs ad b) : ∀ (t0 : Int32) (I : wI) (H : Heap) (locs : List Loc) (ls : Array Slot), v_X6_cut_56 x1 x2 x3 Q t0 I → wH D cs b G I s H locs → lv_has ls 6 [(0, .ref (b + 111)), (1, .int x1), (2, .int x2), (3, .int x3)] → W p l e rm_X6_cut s m args below meth c H locs 0 0 (MQ below (va_Qi (Q) (wPo D cs b G) (fun q => b ≤ q)) args s 0 0 (fun q => b ≤ q)) (F0 m 56 ls [.int t0, .ref (b + 111)]) := by
  obtain ⟨hX, hr, hlk, hK, hE⟩ := id C0
  have hx := hX.1
  have hb := hX.2.1
  have hown := hX.2.2.2.1
  have hts := hX.2.2.2.2
  intro t0 I H locs ls hq hH hl
  unfold v_X6_cut_56 at hq
  refine w_puti hX hK hH ck6 sh111 0 fw6_0 q4_73 dX6_cut_56 (fun I1 H locs hI hH => ?_)
  have hq := hq I1 hI
  refine lv_aload_n hx hb dX6_cut_59 rfl (lv_at hl 0 rfl) ?_
  refine w_geti hX hK hH ck6 sh111 0 fi6_0 q4_73 dX6_cut_60 ?_
  refine lv_if_le (tgt := 68) hx hb dX6_cut_63 (by decide) (fun hc => ?_) (fun hc => ?_)
  · have hq := hq.1 hc
    refine lv_aload_n hx hb dX6_cut_68 rfl (lv_at hl 0 rfl) ?_
    obtain ⟨hp, hq⟩ := hq
    refine w_cV hH (w_rV (As := []) (rest := []) hX hK hE hH (c_X6_record   _ hp) ck6 sh111 q4_153 q4_155 qs29 q1_7 q4_156 hd_X6_record ⟨Nat.le_of_ble_eq_true rfl, Nat.le_of_ble_eq_true rfl⟩ ⟨rfl, rfl⟩ rfl hl.1 rfl (Nat.le_of_ble_eq_true rfl) dX6_cut_69 ⟨Nat.zero_le _, Nat.zero_le _⟩) (fun  I2 H locs hpo hH => ?_)
    have hq := hq  I2 hpo
    refine lv_aload_n hx hb dX6_cut_72 rfl (lv_at hl 0 rfl) ?_
    refine w_getr hX hK hH ck6 sh111 1 1 112 fr6_1 rfl q4_74 dX6_cut_73 ?_
    refine lv_bipush (v := 18) hx hb dX6_cut_76 (by decide) ?_
    refine lv_iload_n hx hb dX6_cut_78 rfl (lv_at hl 1 rfl) ?_
    refine lv_iadd hx hb dX6_cut_79 ?_
    obtain ⟨hc, hq⟩ := hq
    refine w_iald hX hK hH (sf6_1 sh111) hc dX6_cut_80 ?_
    refine lv_istore (lv' := [(5, .int (I2 112 (((18 : Int32) + x1)).toNatClampNeg)), (0, .ref (b + 111)), (1, .int x1), (2, .int x2), (3, .int x3)]) hx hb dX6_cut_81 hl (by decide) rfl (fun ls hl => ?_)
    refine lv_aload_n hx hb dX6_cut_83 rfl (lv_at hl 1 rfl) ?_
    refine w_getr hX hK hH ck6 sh111 1 1 112 fr6_1 rfl q4_74 dX6_cut_84 ?_
    refine lv_bipush (v := 18) hx hb dX6_cut_87 (by decide) ?_
    refine lv_iload_n hx hb dX6_cut_89 rfl (lv_at hl 2 rfl) ?_
    refine lv_iadd hx hb dX6_cut_90 ?_
    refine lv_iload_n hx hb dX6_cut_91 rfl (lv_at hl 3 rfl) ?_
    obtain ⟨hc, hq⟩ := hq
    refine w_iast hX hK hH (sf6_1 sh111) hc dX6_cut_92 (fun I3 H locs hI hH => ?_)
    have hq := hq I3 hI
    refine lv_aload_n hx hb dX6_cut_93 rfl (lv_at hl 1 rfl) ?_
    refine w_getr hX hK hH ck6 sh111 1 1 112 fr6_1 rfl q4_74 dX6_cut_94 ?_
    refine lv_bipush (v := 23) hx hb dX6_cut_97 (by decide) ?_
    refine lv_iload_n hx hb dX6_cut_99 rfl (lv_at hl 2 rfl) ?_
    refine lv_iadd hx hb dX6_cut_100 ?_
    refine lv_iload_n hx hb dX6_cut_101 rfl (lv_at hl 4 rfl) ?_
    obtain ⟨hc, hq⟩ := hq
    refine w_iast hX hK hH (sf6_1 sh111) hc dX6_cut_102 (fun I4 H locs hI hH => ?_)
    have hq := hq I4 hI
    refine lv_iload hx hb dX6_cut_103 (lv_at hl 0 rfl) ?_
    exact w_eI hX hr hlk hH hq dX6_cut_105
  · have hq := hq.2 hc
    refine lv_iconst (v := 0) hx hb dX6_cut_66 (by decide) ?_
    exact w_eI hX hr hlk hH hq dX6_cut_67
set_option maxRecDepth 100000 in
set_option maxHeartbeats 4000000 in
theorem s_X6_cut_32 {x1 : Int32} {x2 : Int32} {x3 : Int32} {Q : Int32 → wI → Prop} (C0 : wCx p m c s args meth cX6_cut 6 RX6 (some .int) D cs ad b) : ∀ (t0 : Int32) (I : wI) (H : Heap) (locs : List Loc) (ls : Array Slot), v_X6_cut_32 x1 x2 x3 Q t0 I → wH D cs b G I s H locs → lv_has ls 6 [(0, .ref (b + 111)), (1, .int x1), (2, .int x2), (3, .int x3)] → W p l e rm_X6_cut s m args below meth c H locs 0 0 (MQ below (va_Qi (Q) (wPo D cs b G) (fun q => b ≤ q)) args s 0 0 (fun q => b ≤ q)) (F0 m 32 ls [.int t0]) := by
  obtain ⟨hX, hr, hlk, hK, hE⟩ := id C0
  have hx := hX.1
  have hb := hX.2.1
  have hown := hX.2.2.2.1
  have hts := hX.2.2.2.2
  intro t0 I H locs ls hq hH hl
  unfold v_X6_cut_32 at hq
  refine lv_istore (lv' := [(4, .int t0), (0, .ref (b + 111)), (1, .int x1), (2, .int x2), (3, .int x3)]) hx hb dX6_cut_32 hl (by decide) rfl (fun ls hl => ?_)
  refine lv_aload_n hx hb dX6_cut_34 rfl (lv_at hl 1 rfl) ?_
  refine lv_iload_n hx hb dX6_cut_35 rfl (lv_at hl 2 rfl) ?_
  obtain ⟨hp, hq⟩ := hq
  refine w_cIp hH (w_rS (As := [.int x1]) (rest := [.ref (b + 111)]) hX hK hE hH (c_X6_isKey  _ _ hp) q4_165 q4_166 q1_7 q4_167 hd_X6_isKey.2 ⟨Nat.le_of_ble_eq_true rfl, Nat.le_of_ble_eq_true rfl⟩ ⟨rfl, rfl⟩ rfl hl.1 rfl (Nat.le_of_ble_eq_true rfl) dX6_cut_36 ⟨Nat.zero_le _, Nat.zero_le _⟩) (fun r1  H locs hpo hH => ?_)
  have hq := hq r1  hpo
  refine lv_if_ne (tgt := 46) hx hb dX6_cut_39 (by decide) (fun hc => ?_) (fun hc => ?_)
  · have hq := hq.1 hc
    refine lv_iload hx hb dX6_cut_46 (lv_at hl 0 rfl) ?_
    refine lv_if_eq (tgt := 55) hx hb dX6_cut_48 (by decide) (fun hc => ?_) (fun hc => ?_)
    · have hq := hq.1 hc
      refine lv_iconst (v := 2) hx hb dX6_cut_55 (by decide) ?_
      exact s_X6_cut_56  C0  (2 : Int32) _ _ _ _ hq hH (lv_sub hl [1, 2, 3, 4] rfl)
    · have hq := hq.2 hc
      refine lv_iconst (v := 0) hx hb dX6_cut_51 (by decide) ?_
      refine lv_goto (tgt := 56) hx hb dX6_cut_52 (by decide) ?_
      exact s_X6_cut_56  C0  (0 : Int32) _ _ _ _ hq hH (lv_sub hl [1, 2, 3, 4] rfl)
  · have hq := hq.2 hc
    refine lv_iconst (v := 1) hx hb dX6_cut_42 (by decide) ?_
    refine lv_goto (tgt := 56) hx hb dX6_cut_43 (by decide) ?_
    exact s_X6_cut_56  C0  (1 : Int32) _ _ _ _ hq hH (lv_sub hl [1, 2, 3, 4] rfl)
set_option maxRecDepth 100000 in
set_option maxHeartbeats 4000000 in
theorem s_X6_cut_31 {x1 : Int32} {x2 : Int32} {x3 : Int32} {Q : Int32 → wI → Prop} (C0 : wCx p m c s args meth cX6_cut 6 RX6 (some .int) D cs ad b) : ∀  (I : wI) (H : Heap) (locs : List Loc) (ls : Array Slot), v_X6_cut_31 x1 x2 x3 Q  I → wH D cs b G I s H locs → lv_has ls 6 [(0, .ref (b + 111)), (1, .int x1), (2, .int x2), (3, .int x3)] → W p l e rm_X6_cut s m args below meth c H locs 0 0 (MQ below (va_Qi (Q) (wPo D cs b G) (fun q => b ≤ q)) args s 0 0 (fun q => b ≤ q)) (F0 m 31 ls []) := by
  obtain ⟨hX, hr, hlk, hK, hE⟩ := id C0
  have hx := hX.1
  have hb := hX.2.1
  have hown := hX.2.2.2.1
  have hts := hX.2.2.2.2
  intro  I H locs ls hq hH hl
  unfold v_X6_cut_31 at hq
  refine lv_iconst (v := 0) hx hb dX6_cut_31 (by decide) ?_
  exact s_X6_cut_32  C0  (0 : Int32) _ _ _ _ hq hH (lv_sub hl [0, 1, 2, 3] rfl)
set_option maxRecDepth 100000 in
set_option maxHeartbeats 4000000 in
theorem c_X6_cut {l : Launch} {D : va_G} {cs : wC4} {ad : Nat → Nat} {b : Nat} {G : wG} (x1 : Int32) (x2 : Int32) (x3 : Int32) (I : wI) (hp : pre_X6_cut x1 x2 x3 I) : Met l yX6_cut (ws_ yX6_cut cX6_cut 6 (some .int)) rm_X6_cut (va_Pc [.ref (b + 111), .int x1, .int x2, .int x3] (wPr D cs ad b G I)) (va_Qi (fun r I' => post_X6_cut x1 x2 x3 I r I') (wPo D cs b G) (fun q => b ≤ q)) 0 0 (fun q => b ≤ q) := by
  have hq := vc_X6_cut x1 x2 x3 I hp
  refine w_met (by decide) (Nat.le_of_ble_eq_true rfl) ?_
  intro p e s m below meth c hX hr hlk hK hE hH ls hl
  have C0 : wCx p m c s _ meth cX6_cut 6 RX6 (some .int) D cs ad b := ⟨hX, hr, hlk, hK, hE⟩
  have hX : CallFix p m c cX6_cut 6 s _ lw_all RX6 := hX
  have hx := hX.1
  have hb := hX.2.1
  have hown := hX.2.2.2.1
  have hts := hX.2.2.2.2
  have hl : lv_has ls 6 [(0, .ref (b + 111)), (1, .int x1), (2, .int x2), (3, .int x3)] := hl
  unfold v_X6_cut at hq
  refine lv_iload_n hx hb dX6_cut_0 rfl (lv_at hl 2 rfl) ?_
  refine lv_iconst (v := 0) hx hb dX6_cut_1 (by decide) ?_
  refine lv_bipush (v := 63) hx hb dX6_cut_2 (by decide) ?_
  obtain ⟨hp, hq⟩ := hq
  refine w_cIp hH (w_rS (As := [.int x2, .int (0 : Int32), .int (63 : Int32)]) (rest := []) hX hK hE hH (c_X6_in  _ _ _ _ hp) q4_168 q4_169 q1_7 q4_170 hd_X6_in.2 ⟨Nat.le_of_ble_eq_true rfl, Nat.le_of_ble_eq_true rfl⟩ ⟨rfl, rfl⟩ rfl hl.1 rfl (Nat.le_of_ble_eq_true rfl) dX6_cut_4 ⟨Nat.zero_le _, Nat.zero_le _⟩) (fun r1  H locs hpo hH => ?_)
  have hq := hq r1  hpo
  refine lv_if_eq (tgt := 31) hx hb dX6_cut_7 (by decide) (fun hc => ?_) (fun hc => ?_)
  · have hq := hq.1 hc
    exact s_X6_cut_31  C0   _ _ _ _ hq hH (lv_sub hl [0, 1, 2, 3] rfl)
  · have hq := hq.2 hc
    refine lv_iload_n hx hb dX6_cut_10 rfl (lv_at hl 2 rfl) ?_
    obtain ⟨hp, hq⟩ := hq
    refine w_cIp hH (w_rS (As := [.int x2]) (rest := []) hX hK hE hH (c_X6_ones  _ _ hp) q4_203 q4_204 q1_7 q4_205 hd_X6_ones.2 ⟨Nat.le_of_ble_eq_true rfl, Nat.le_of_ble_eq_true rfl⟩ ⟨rfl, rfl⟩ rfl hl.1 rfl (Nat.le_of_ble_eq_true rfl) dX6_cut_11 ⟨Nat.zero_le _, Nat.zero_le _⟩) (fun r2  H locs hpo hH => ?_)
    have hq := hq r2  hpo
    refine lv_iconst (v := 1) hx hb dX6_cut_14 (by decide) ?_
    refine lv_icmp_le (tgt := 31) hx hb dX6_cut_15 (by decide) (fun hc => ?_) (fun hc => ?_)
    · have hq := hq.1 hc
      exact s_X6_cut_31  C0   _ _ _ _ hq hH (lv_sub hl [0, 1, 2, 3] rfl)
    · have hq := hq.2 hc
      refine lv_iload_n hx hb dX6_cut_18 rfl (lv_at hl 3 rfl) ?_
      refine lv_iconst (v := 0) hx hb dX6_cut_19 (by decide) ?_
      refine lv_iconst (v := 4) hx hb dX6_cut_20 (by decide) ?_
      obtain ⟨hp, hq⟩ := hq
      refine w_cIp hH (w_rS (As := [.int x3, .int (0 : Int32), .int (4 : Int32)]) (rest := []) hX hK hE hH (c_X6_in  _ _ _ _ hp) q4_168 q4_169 q1_7 q4_170 hd_X6_in.2 ⟨Nat.le_of_ble_eq_true rfl, Nat.le_of_ble_eq_true rfl⟩ ⟨rfl, rfl⟩ rfl hl.1 rfl (Nat.le_of_ble_eq_true rfl) dX6_cut_21 ⟨Nat.zero_le _, Nat.zero_le _⟩) (fun r3  H locs hpo hH => ?_)
      have hq := hq r3  hpo
      refine lv_if_eq (tgt := 31) hx hb dX6_cut_24 (by decide) (fun hc => ?_) (fun hc => ?_)
      · have hq := hq.1 hc
        exact s_X6_cut_31  C0   _ _ _ _ hq hH (lv_sub hl [0, 1, 2, 3] rfl)
      · have hq := hq.2 hc
        refine lv_iconst (v := 1) hx hb dX6_cut_27 (by decide) ?_
        refine lv_goto (tgt := 32) hx hb dX6_cut_28 (by decide) ?_
        exact s_X6_cut_32  C0  (1 : Int32) _ _ _ _ hq hH (lv_sub hl [0, 1, 2, 3] rfl)
abbrev rm_X6_stuckKeys : Room := { frames := 2, cells := 0, slots := 0, locals := 45 }
theorem hd_X6_stuckKeys : yX6_stuckKeys.cls = RX6 ∧ yX6_stuckKeys.cls ≠ "java/lang/invoke/MethodHandle" ∧ yX6_stuckKeys.cls ≠ "java/lang/invoke/VarHandle" ∧ (parseMethodDescriptor yX6_stuckKeys.desc).map (fun d => d.parameters.length) = some 0 := by decide +kernel
set_option maxRecDepth 100000 in
set_option maxHeartbeats 4000000 in
theorem s_X6_stuckKeys_23 {I : wI} {Q : Int32 → Prop} {K4 : Int32 → Int32 → Prop} (C0 : wCx p m c s args meth cX6_stuckKeys 3 RX6 (some .int) D cs ad b) (hK4 : ∀ (v1 : Int32) (v2 : Int32) (H : Heap) (locs : List Loc) (ls : Array Slot), K4 v1 v2 → wH D cs b G I s H locs → lv_has ls 3 [(0, .ref (b + 111)), (1, .int v1), (2, .int v2)] → W p l e rm_X6_stuckKeys s m args below meth c H locs 0 0 (MQ below (va_Qi (fun r I' => I' = I ∧ Q r) (wPo D cs b G) (fun q => b ≤ q)) args s 0 0 (fun q => b ≤ q)) (F0 m 4 ls [])) : ∀ (v2 : Int32) (t0 : Int32) (t1 : Int32) (H : Heap) (locs : List Loc) (ls : Array Slot), v_X6_stuckKeys_23 I Q K4 v2 t0 t1 → wH D cs b G I s H locs → lv_has ls 3 [(0, .ref (b + 111)), (2, .int v2)] → W p l e rm_X6_stuckKeys s m args below meth c H locs 0 0 (MQ below (va_Qi (fun r I' => I' = I ∧ Q r) (wPo D cs b G) (fun q => b ≤ q)) args s 0 0 (fun q => b ≤ q)) (F0 m 23 ls [.int t0, .int t1]) := by
  obtain ⟨hX, hr, hlk, hK, hE⟩ := id C0
  have hx := hX.1
  have hb := hX.2.1
  have hown := hX.2.2.2.1
  have hts := hX.2.2.2.2
  intro v2 t0 t1 H locs ls hq hH hl
  unfold v_X6_stuckKeys_23 at hq
  refine lv_iadd hx hb dX6_stuckKeys_23 ?_
  refine lv_istore_n (lv' := [(1, .int (t1 + t0)), (0, .ref (b + 111)), (2, .int v2)]) hx hb dX6_stuckKeys_24 rfl hl (by decide) rfl (fun ls hl => ?_)
  refine lv_iinc (v := (v2 + (1 : Int32))) (lv' := [(2, .int (v2 + (1 : Int32))), (1, .int (t1 + t0)), (0, .ref (b + 111))]) hx hb dX6_stuckKeys_25 hl (k := 2) rfl rfl (by decide) rfl (fun ls hl => ?_)
  refine lv_goto (tgt := 4) hx hb dX6_stuckKeys_28 (by decide) ?_
  exact hK4 (t1 + t0) (v2 + (1 : Int32)) _ _ _ hq hH (lv_sub hl [2, 1, 0] rfl)
set_option maxRecDepth 100000 in
set_option maxHeartbeats 4000000 in
theorem s_X6_stuckKeys_4 {I : wI} {Q : Int32 → Prop} (C0 : wCx p m c s args meth cX6_stuckKeys 3 RX6 (some .int) D cs ad b) : ∀ (f : Nat) (v1 : Int32) (v2 : Int32) (H : Heap) (locs : List Loc) (ls : Array Slot), v_X6_stuckKeys_4 I Q f v1 v2 → wH D cs b G I s H locs → lv_has ls 3 [(0, .ref (b + 111)), (1, .int v1), (2, .int v2)] → W p l e rm_X6_stuckKeys s m args below meth c H locs 0 0 (MQ below (va_Qi (fun r I' => I' = I ∧ Q r) (wPo D cs b G) (fun q => b ≤ q)) args s 0 0 (fun q => b ≤ q)) (F0 m 4 ls []) := by
  obtain ⟨hX, hr, hlk, hK, hE⟩ := id C0
  have hx := hX.1
  have hb := hX.2.1
  have hown := hX.2.2.2.1
  have hts := hX.2.2.2.2
  intro f
  induction f with
  | zero =>
    intro v1 v2 H locs ls hq
    exact hq.elim
  | succ f hK4 =>
    intro v1 v2 H locs ls hq hH hl
    have hq : g_X6_stuckKeys_4 I Q (v_X6_stuckKeys_4 I Q f) v1 v2 := hq
    unfold g_X6_stuckKeys_4 at hq
    refine lv_iload_n hx hb dX6_stuckKeys_4 rfl (lv_at hl 2 rfl) ?_
    refine lv_iconst (v := 5) hx hb dX6_stuckKeys_5 (by decide) ?_
    refine lv_icmp_ge (tgt := 31) hx hb dX6_stuckKeys_6 (by decide) (fun hc => ?_) (fun hc => ?_)
    · have hq := hq.1 hc
      refine lv_iload_n hx hb dX6_stuckKeys_31 rfl (lv_at hl 1 rfl) ?_
      exact w_eI hX hr hlk hH ⟨rfl, hq⟩ dX6_stuckKeys_32
    · have hq := hq.2 hc
      refine lv_iload_n hx hb dX6_stuckKeys_9 rfl (lv_at hl 1 rfl) ?_
      refine lv_aload_n hx hb dX6_stuckKeys_10 rfl (lv_at hl 0 rfl) ?_
      refine lv_iload_n hx hb dX6_stuckKeys_11 rfl (lv_at hl 2 rfl) ?_
      obtain ⟨hp, hq⟩ := hq
      refine w_cIp hH (w_rV (As := [.int v2]) (rest := [.int v1]) hX hK hE hH (c_X6_isStuck  _ _ hp) ck6 sh111 q4_171 q4_173 qs31 q1_7 q4_174 hd_X6_isStuck ⟨Nat.le_of_ble_eq_true rfl, Nat.le_of_ble_eq_true rfl⟩ ⟨rfl, rfl⟩ rfl hl.1 rfl (Nat.le_of_ble_eq_true rfl) dX6_stuckKeys_12 ⟨Nat.zero_le _, Nat.zero_le _⟩) (fun r1  H locs hpo hH => ?_)
      have hq := hq r1  hpo
      refine lv_if_eq (tgt := 22) hx hb dX6_stuckKeys_15 (by decide) (fun hc => ?_) (fun hc => ?_)
      · have hq := hq.1 hc
        refine lv_iconst (v := 0) hx hb dX6_stuckKeys_22 (by decide) ?_
        exact s_X6_stuckKeys_23  C0 hK4 v2 (0 : Int32) v1 _ _ _ hq hH (lv_sub hl [0, 2] rfl)
      · have hq := hq.2 hc
        refine lv_iconst (v := 1) hx hb dX6_stuckKeys_18 (by decide) ?_
        refine lv_goto (tgt := 23) hx hb dX6_stuckKeys_19 (by decide) ?_
        exact s_X6_stuckKeys_23  C0 hK4 v2 (1 : Int32) v1 _ _ _ hq hH (lv_sub hl [0, 2] rfl)
set_option maxRecDepth 100000 in
set_option maxHeartbeats 4000000 in
theorem c_X6_stuckKeys {l : Launch} {D : va_G} {cs : wC4} {ad : Nat → Nat} {b : Nat} {G : wG}  (I : wI) (hp : pre_X6_stuckKeys  I) : Met l yX6_stuckKeys (ws_ yX6_stuckKeys cX6_stuckKeys 3 (some .int)) rm_X6_stuckKeys (va_Pc [.ref (b + 111)] (wPr D cs ad b G I)) (va_Qi (fun r I' => I' = I ∧ post_X6_stuckKeys  I r) (wPo D cs b G) (fun q => b ≤ q)) 0 0 (fun q => b ≤ q) := by
  have hq := vc_X6_stuckKeys  I hp
  refine w_met (by decide) (Nat.le_of_ble_eq_true rfl) ?_
  intro p e s m below meth c hX hr hlk hK hE hH ls hl
  have C0 : wCx p m c s _ meth cX6_stuckKeys 3 RX6 (some .int) D cs ad b := ⟨hX, hr, hlk, hK, hE⟩
  have hX : CallFix p m c cX6_stuckKeys 3 s _ lw_all RX6 := hX
  have hx := hX.1
  have hb := hX.2.1
  have hown := hX.2.2.2.1
  have hts := hX.2.2.2.2
  have hl : lv_has ls 3 [(0, .ref (b + 111))] := hl
  unfold v_X6_stuckKeys at hq
  refine lv_iconst (v := 0) hx hb dX6_stuckKeys_0 (by decide) ?_
  refine lv_istore_n (lv' := [(1, .int (0 : Int32)), (0, .ref (b + 111))]) hx hb dX6_stuckKeys_1 rfl hl (by decide) rfl (fun ls hl => ?_)
  refine lv_iconst (v := 0) hx hb dX6_stuckKeys_2 (by decide) ?_
  refine lv_istore_n (lv' := [(2, .int (0 : Int32)), (1, .int (0 : Int32)), (0, .ref (b + 111))]) hx hb dX6_stuckKeys_3 rfl hl (by decide) rfl (fun ls hl => ?_)
  obtain ⟨f, hq⟩ := hq
  exact s_X6_stuckKeys_4  C0  f (0 : Int32) (0 : Int32) _ _ _ hq hH (lv_sub hl [2, 1, 0] rfl)
abbrev rm_X6_stick : Room := { frames := 3, cells := 0, slots := 0, locals := 67 }
theorem hd_X6_stick : yX6_stick.cls = RX6 ∧ yX6_stick.cls ≠ "java/lang/invoke/MethodHandle" ∧ yX6_stick.cls ≠ "java/lang/invoke/VarHandle" ∧ (parseMethodDescriptor yX6_stick.desc).map (fun d => d.parameters.length) = some 1 := by decide +kernel
set_option maxRecDepth 100000 in
set_option maxHeartbeats 4000000 in
theorem s_X6_stick_13 {x1 : Int32} {Q : Int32 → wI → Prop} (C0 : wCx p m c s args meth cX6_stick 2 RX6 (some .int) D cs ad b) : ∀ (t0 : Int32) (I : wI) (H : Heap) (locs : List Loc) (ls : Array Slot), v_X6_stick_13 x1 Q t0 I → wH D cs b G I s H locs → lv_has ls 2 [(0, .ref (b + 111)), (1, .int x1)] → W p l e rm_X6_stick s m args below meth c H locs 0 0 (MQ below (va_Qi (Q) (wPo D cs b G) (fun q => b ≤ q)) args s 0 0 (fun q => b ≤ q)) (F0 m 13 ls [.int t0, .ref (b + 111)]) := by
  obtain ⟨hX, hr, hlk, hK, hE⟩ := id C0
  have hx := hX.1
  have hb := hX.2.1
  have hown := hX.2.2.2.1
  have hts := hX.2.2.2.2
  intro t0 I H locs ls hq hH hl
  unfold v_X6_stick_13 at hq
  refine w_puti hX hK hH ck6 sh111 0 fw6_0 q4_73 dX6_stick_13 (fun I1 H locs hI hH => ?_)
  have hq := hq I1 hI
  refine lv_aload_n hx hb dX6_stick_16 rfl (lv_at hl 0 rfl) ?_
  refine w_geti hX hK hH ck6 sh111 0 fi6_0 q4_73 dX6_stick_17 ?_
  refine lv_if_le (tgt := 25) hx hb dX6_stick_20 (by decide) (fun hc => ?_) (fun hc => ?_)
  · have hq := hq.1 hc
    refine lv_aload_n hx hb dX6_stick_25 rfl (lv_at hl 0 rfl) ?_
    obtain ⟨hp, hq⟩ := hq
    refine w_cV hH (w_rV (As := []) (rest := []) hX hK hE hH (c_X6_record   _ hp) ck6 sh111 q4_153 q4_155 qs29 q1_7 q4_156 hd_X6_record ⟨Nat.le_of_ble_eq_true rfl, Nat.le_of_ble_eq_true rfl⟩ ⟨rfl, rfl⟩ rfl hl.1 rfl (Nat.le_of_ble_eq_true rfl) dX6_stick_26 ⟨Nat.zero_le _, Nat.zero_le _⟩) (fun  I2 H locs hpo hH => ?_)
    have hq := hq  I2 hpo
    refine lv_aload_n hx hb dX6_stick_29 rfl (lv_at hl 0 rfl) ?_
    refine w_getr hX hK hH ck6 sh111 1 1 112 fr6_1 rfl q4_74 dX6_stick_30 ?_
    refine lv_bipush (v := 12) hx hb dX6_stick_33 (by decide) ?_
    refine lv_iload_n hx hb dX6_stick_35 rfl (lv_at hl 1 rfl) ?_
    refine lv_iadd hx hb dX6_stick_36 ?_
    refine lv_iconst (v := 1) hx hb dX6_stick_37 (by decide) ?_
    refine lv_aload_n hx hb dX6_stick_38 rfl (lv_at hl 0 rfl) ?_
    refine w_getr hX hK hH ck6 sh111 1 1 112 fr6_1 rfl q4_74 dX6_stick_39 ?_
    refine lv_bipush (v := 12) hx hb dX6_stick_42 (by decide) ?_
    refine lv_iload_n hx hb dX6_stick_44 rfl (lv_at hl 1 rfl) ?_
    refine lv_iadd hx hb dX6_stick_45 ?_
    obtain ⟨hc, hq⟩ := hq
    refine w_iald hX hK hH (sf6_1 sh111) hc dX6_stick_46 ?_
    refine lv_isub hx hb dX6_stick_47 ?_
    obtain ⟨hc, hq⟩ := hq
    refine w_iast hX hK hH (sf6_1 sh111) hc dX6_stick_48 (fun I3 H locs hI hH => ?_)
    have hq := hq I3 hI
    refine lv_aload_n hx hb dX6_stick_49 rfl (lv_at hl 0 rfl) ?_
    obtain ⟨hp, hq⟩ := hq
    refine w_cIp hH (w_rV (As := []) (rest := []) hX hK hE hH (c_X6_stuckKeys   _ hp) ck6 sh111 q5_21 q5_23 qs47 q1_7 q5_24 hd_X6_stuckKeys ⟨Nat.le_of_ble_eq_true rfl, Nat.le_of_ble_eq_true rfl⟩ ⟨rfl, rfl⟩ rfl hl.1 rfl (Nat.le_of_ble_eq_true rfl) dX6_stick_50 ⟨Nat.zero_le _, Nat.zero_le _⟩) (fun r4  H locs hpo hH => ?_)
    have hq := hq r4  hpo
    exact w_eI hX hr hlk hH hq dX6_stick_53
  · have hq := hq.2 hc
    refine lv_iconst (v := 0) hx hb dX6_stick_23 (by decide) ?_
    exact w_eI hX hr hlk hH hq dX6_stick_24
set_option maxRecDepth 100000 in
set_option maxHeartbeats 4000000 in
theorem c_X6_stick {l : Launch} {D : va_G} {cs : wC4} {ad : Nat → Nat} {b : Nat} {G : wG} (x1 : Int32) (I : wI) (hp : pre_X6_stick x1 I) : Met l yX6_stick (ws_ yX6_stick cX6_stick 2 (some .int)) rm_X6_stick (va_Pc [.ref (b + 111), .int x1] (wPr D cs ad b G I)) (va_Qi (fun r I' => post_X6_stick x1 I r I') (wPo D cs b G) (fun q => b ≤ q)) 0 0 (fun q => b ≤ q) := by
  have hq := vc_X6_stick x1 I hp
  refine w_met (by decide) (Nat.le_of_ble_eq_true rfl) ?_
  intro p e s m below meth c hX hr hlk hK hE hH ls hl
  have C0 : wCx p m c s _ meth cX6_stick 2 RX6 (some .int) D cs ad b := ⟨hX, hr, hlk, hK, hE⟩
  have hX : CallFix p m c cX6_stick 2 s _ lw_all RX6 := hX
  have hx := hX.1
  have hb := hX.2.1
  have hown := hX.2.2.2.1
  have hts := hX.2.2.2.2
  have hl : lv_has ls 2 [(0, .ref (b + 111)), (1, .int x1)] := hl
  unfold v_X6_stick at hq
  refine lv_aload_n hx hb dX6_stick_0 rfl (lv_at hl 0 rfl) ?_
  refine lv_iload_n hx hb dX6_stick_1 rfl (lv_at hl 1 rfl) ?_
  obtain ⟨hp, hq⟩ := hq
  refine w_cIp hH (w_rS (As := [.int x1]) (rest := [.ref (b + 111)]) hX hK hE hH (c_X6_isPlace  _ _ hp) q5_18 q5_19 q1_7 q5_20 hd_X6_isPlace.2 ⟨Nat.le_of_ble_eq_true rfl, Nat.le_of_ble_eq_true rfl⟩ ⟨rfl, rfl⟩ rfl hl.1 rfl (Nat.le_of_ble_eq_true rfl) dX6_stick_2 ⟨Nat.zero_le _, Nat.zero_le _⟩) (fun r1  H locs hpo hH => ?_)
  have hq := hq r1  hpo
  refine lv_if_eq (tgt := 12) hx hb dX6_stick_5 (by decide) (fun hc => ?_) (fun hc => ?_)
  · have hq := hq.1 hc
    refine lv_iconst (v := 1) hx hb dX6_stick_12 (by decide) ?_
    exact s_X6_stick_13  C0  (1 : Int32) _ _ _ _ hq hH (lv_sub hl [0, 1] rfl)
  · have hq := hq.2 hc
    refine lv_iconst (v := 0) hx hb dX6_stick_8 (by decide) ?_
    refine lv_goto (tgt := 13) hx hb dX6_stick_9 (by decide) ?_
    exact s_X6_stick_13  C0  (0 : Int32) _ _ _ _ hq hH (lv_sub hl [0, 1] rfl)
abbrev rm_X6_notches : Room := { frames := 0, cells := 0, slots := 0, locals := 0 }
theorem hd_X6_notches : yX6_notches.cls = RX6 ∧ yX6_notches.cls ≠ "java/lang/invoke/MethodHandle" ∧ yX6_notches.cls ≠ "java/lang/invoke/VarHandle" ∧ (parseMethodDescriptor yX6_notches.desc).map (fun d => d.parameters.length) = some 0 := by decide +kernel
set_option maxRecDepth 100000 in
set_option maxHeartbeats 4000000 in
theorem s_X6_notches_4 {I : wI} {Q : Int32 → Prop} (C0 : wCx p m c s args meth cX6_notches 3 RX6 (some .int) D cs ad b) : ∀ (f : Nat) (v1 : Int32) (v2 : Int32) (H : Heap) (locs : List Loc) (ls : Array Slot), v_X6_notches_4 I Q f v1 v2 → wH D cs b G I s H locs → lv_has ls 3 [(0, .ref (b + 111)), (1, .int v1), (2, .int v2)] → W p l e rm_X6_notches s m args below meth c H locs 0 0 (MQ below (va_Qi (fun r I' => I' = I ∧ Q r) (wPo D cs b G) (fun q => b ≤ q)) args s 0 0 (fun q => b ≤ q)) (F0 m 4 ls []) := by
  obtain ⟨hX, hr, hlk, hK, hE⟩ := id C0
  have hx := hX.1
  have hb := hX.2.1
  have hown := hX.2.2.2.1
  have hts := hX.2.2.2.2
  intro f
  induction f with
  | zero =>
    intro v1 v2 H locs ls hq
    exact hq.elim
  | succ f hK4 =>
    intro v1 v2 H locs ls hq hH hl
    have hq : g_X6_notches_4 I Q (v_X6_notches_4 I Q f) v1 v2 := hq
    unfold g_X6_notches_4 at hq
    refine lv_iload_n hx hb dX6_notches_4 rfl (lv_at hl 2 rfl) ?_
    refine lv_bipush (v := 6) hx hb dX6_notches_5 (by decide) ?_
    refine lv_icmp_ge (tgt := 28) hx hb dX6_notches_7 (by decide) (fun hc => ?_) (fun hc => ?_)
    · have hq := hq.1 hc
      refine lv_iload_n hx hb dX6_notches_28 rfl (lv_at hl 1 rfl) ?_
      exact w_eI hX hr hlk hH ⟨rfl, hq⟩ dX6_notches_29
    · have hq := hq.2 hc
      refine lv_iload_n hx hb dX6_notches_10 rfl (lv_at hl 1 rfl) ?_
      refine lv_aload_n hx hb dX6_notches_11 rfl (lv_at hl 0 rfl) ?_
      refine w_getr hX hK hH ck6 sh111 1 1 112 fr6_1 rfl q4_74 dX6_notches_12 ?_
      refine lv_bipush (v := 6) hx hb dX6_notches_15 (by decide) ?_
      refine lv_iload_n hx hb dX6_notches_17 rfl (lv_at hl 2 rfl) ?_
      refine lv_iadd hx hb dX6_notches_18 ?_
      obtain ⟨hc, hq⟩ := hq
      refine w_iald hX hK hH (sf6_1 sh111) hc dX6_notches_19 ?_
      refine lv_iadd hx hb dX6_notches_20 ?_
      refine lv_istore_n (lv' := [(1, .int (v1 + (I 112 (((6 : Int32) + v2)).toNatClampNeg))), (0, .ref (b + 111)), (2, .int v2)]) hx hb dX6_notches_21 rfl hl (by decide) rfl (fun ls hl => ?_)
      refine lv_iinc (v := (v2 + (1 : Int32))) (lv' := [(2, .int (v2 + (1 : Int32))), (1, .int (v1 + (I 112 (((6 : Int32) + v2)).toNatClampNeg))), (0, .ref (b + 111))]) hx hb dX6_notches_22 hl (k := 2) rfl rfl (by decide) rfl (fun ls hl => ?_)
      refine lv_goto (tgt := 4) hx hb dX6_notches_25 (by decide) ?_
      exact hK4 (v1 + (I 112 (((6 : Int32) + v2)).toNatClampNeg)) (v2 + (1 : Int32)) _ _ _ hq hH (lv_sub hl [2, 1, 0] rfl)
set_option maxRecDepth 100000 in
set_option maxHeartbeats 4000000 in
theorem c_X6_notches {l : Launch} {D : va_G} {cs : wC4} {ad : Nat → Nat} {b : Nat} {G : wG}  (I : wI) (hp : pre_X6_notches  I) : Met l yX6_notches (ws_ yX6_notches cX6_notches 3 (some .int)) rm_X6_notches (va_Pc [.ref (b + 111)] (wPr D cs ad b G I)) (va_Qi (fun r I' => I' = I ∧ post_X6_notches  I r) (wPo D cs b G) (fun q => b ≤ q)) 0 0 (fun q => b ≤ q) := by
  have hq := vc_X6_notches  I hp
  refine w_met (by decide) (Nat.le_of_ble_eq_true rfl) ?_
  intro p e s m below meth c hX hr hlk hK hE hH ls hl
  have C0 : wCx p m c s _ meth cX6_notches 3 RX6 (some .int) D cs ad b := ⟨hX, hr, hlk, hK, hE⟩
  have hX : CallFix p m c cX6_notches 3 s _ lw_all RX6 := hX
  have hx := hX.1
  have hb := hX.2.1
  have hown := hX.2.2.2.1
  have hts := hX.2.2.2.2
  have hl : lv_has ls 3 [(0, .ref (b + 111))] := hl
  unfold v_X6_notches at hq
  refine lv_iconst (v := 0) hx hb dX6_notches_0 (by decide) ?_
  refine lv_istore_n (lv' := [(1, .int (0 : Int32)), (0, .ref (b + 111))]) hx hb dX6_notches_1 rfl hl (by decide) rfl (fun ls hl => ?_)
  refine lv_iconst (v := 0) hx hb dX6_notches_2 (by decide) ?_
  refine lv_istore_n (lv' := [(2, .int (0 : Int32)), (1, .int (0 : Int32)), (0, .ref (b + 111))]) hx hb dX6_notches_3 rfl hl (by decide) rfl (fun ls hl => ?_)
  obtain ⟨f, hq⟩ := hq
  exact s_X6_notches_4  C0  f (0 : Int32) (0 : Int32) _ _ _ hq hH (lv_sub hl [2, 1, 0] rfl)
abbrev rm_X6_learn : Room := { frames := 1, cells := 0, slots := 0, locals := 22 }
theorem hd_X6_learn : yX6_learn.cls = RX6 ∧ yX6_learn.cls ≠ "java/lang/invoke/MethodHandle" ∧ yX6_learn.cls ≠ "java/lang/invoke/VarHandle" ∧ (parseMethodDescriptor yX6_learn.desc).map (fun d => d.parameters.length) = some 0 := by decide +kernel
set_option maxRecDepth 100000 in
set_option maxHeartbeats 4000000 in
theorem s_X6_learn_19 {Q : Int32 → wI → Prop} (C0 : wCx p m c s args meth cX6_learn 2 RX6 (some .int) D cs ad b) : ∀ (f : Nat) (v1 : Int32) (I : wI) (H : Heap) (locs : List Loc) (ls : Array Slot), v_X6_learn_19 Q f v1 I → wH D cs b G I s H locs → lv_has ls 2 [(0, .ref (b + 111)), (1, .int v1)] → W p l e rm_X6_learn s m args below meth c H locs 0 0 (MQ below (va_Qi (Q) (wPo D cs b G) (fun q => b ≤ q)) args s 0 0 (fun q => b ≤ q)) (F0 m 19 ls []) := by
  obtain ⟨hX, hr, hlk, hK, hE⟩ := id C0
  have hx := hX.1
  have hb := hX.2.1
  have hown := hX.2.2.2.1
  have hts := hX.2.2.2.2
  intro f
  induction f with
  | zero =>
    intro v1 I H locs ls hq
    exact hq.elim
  | succ f hK19 =>
    intro v1 I H locs ls hq hH hl
    have hq : g_X6_learn_19 Q (v_X6_learn_19 Q f) v1 I := hq
    unfold g_X6_learn_19 at hq
    refine lv_iload_n hx hb dX6_learn_19 rfl (lv_at hl 1 rfl) ?_
    refine lv_bipush (v := 6) hx hb dX6_learn_20 (by decide) ?_
    refine lv_icmp_ge (tgt := 66) hx hb dX6_learn_22 (by decide) (fun hc => ?_) (fun hc => ?_)
    · have hq := hq.1 hc
      refine lv_aload_n hx hb dX6_learn_66 rfl (lv_at hl 0 rfl) ?_
      obtain ⟨hp, hq⟩ := hq
      refine w_cIp hH (w_rV (As := []) (rest := []) hX hK hE hH (c_X6_notches   _ hp) ck6 sh111 q5_29 q5_31 qs48 q1_7 q5_32 hd_X6_notches ⟨Nat.le_of_ble_eq_true rfl, Nat.le_of_ble_eq_true rfl⟩ ⟨rfl, rfl⟩ rfl hl.1 rfl (Nat.le_of_ble_eq_true rfl) dX6_learn_67 ⟨Nat.zero_le _, Nat.zero_le _⟩) (fun r1  H locs hpo hH => ?_)
      have hq := hq r1  hpo
      exact w_eI hX hr hlk hH hq dX6_learn_70
    · have hq := hq.2 hc
      refine lv_aload_n hx hb dX6_learn_25 rfl (lv_at hl 0 rfl) ?_
      refine w_getr hX hK hH ck6 sh111 1 1 112 fr6_1 rfl q4_74 dX6_learn_26 ?_
      refine lv_bipush (v := 37) hx hb dX6_learn_29 (by decide) ?_
      refine lv_iload_n hx hb dX6_learn_31 rfl (lv_at hl 1 rfl) ?_
      refine lv_iadd hx hb dX6_learn_32 ?_
      refine lv_aload_n hx hb dX6_learn_33 rfl (lv_at hl 0 rfl) ?_
      refine w_getr hX hK hH ck6 sh111 1 1 112 fr6_1 rfl q4_74 dX6_learn_34 ?_
      refine lv_iconst (v := 0) hx hb dX6_learn_37 (by decide) ?_
      refine lv_iload_n hx hb dX6_learn_38 rfl (lv_at hl 1 rfl) ?_
      refine lv_iadd hx hb dX6_learn_39 ?_
      obtain ⟨hc, hq⟩ := hq
      refine w_iald hX hK hH (sf6_1 sh111) hc dX6_learn_40 ?_
      obtain ⟨hc, hq⟩ := hq
      refine w_iast hX hK hH (sf6_1 sh111) hc dX6_learn_41 (fun I2 H locs hI hH => ?_)
      have hq := hq I2 hI
      refine lv_aload_n hx hb dX6_learn_42 rfl (lv_at hl 0 rfl) ?_
      refine w_getr hX hK hH ck6 sh111 1 1 112 fr6_1 rfl q4_74 dX6_learn_43 ?_
      refine lv_bipush (v := 43) hx hb dX6_learn_46 (by decide) ?_
      refine lv_iload_n hx hb dX6_learn_48 rfl (lv_at hl 1 rfl) ?_
      refine lv_iadd hx hb dX6_learn_49 ?_
      refine lv_aload_n hx hb dX6_learn_50 rfl (lv_at hl 0 rfl) ?_
      refine w_getr hX hK hH ck6 sh111 1 1 112 fr6_1 rfl q4_74 dX6_learn_51 ?_
      refine lv_bipush (v := 6) hx hb dX6_learn_54 (by decide) ?_
      refine lv_iload_n hx hb dX6_learn_56 rfl (lv_at hl 1 rfl) ?_
      refine lv_iadd hx hb dX6_learn_57 ?_
      obtain ⟨hc, hq⟩ := hq
      refine w_iald hX hK hH (sf6_1 sh111) hc dX6_learn_58 ?_
      obtain ⟨hc, hq⟩ := hq
      refine w_iast hX hK hH (sf6_1 sh111) hc dX6_learn_59 (fun I3 H locs hI hH => ?_)
      have hq := hq I3 hI
      refine lv_iinc (v := (v1 + (1 : Int32))) (lv' := [(1, .int (v1 + (1 : Int32))), (0, .ref (b + 111))]) hx hb dX6_learn_60 hl (k := 1) rfl rfl (by decide) rfl (fun ls hl => ?_)
      refine lv_goto (tgt := 19) hx hb dX6_learn_63 (by decide) ?_
      exact hK19 (v1 + (1 : Int32)) _ _ _ _ hq hH (lv_sub hl [1, 0] rfl)
set_option maxRecDepth 100000 in
set_option maxHeartbeats 4000000 in
theorem c_X6_learn {l : Launch} {D : va_G} {cs : wC4} {ad : Nat → Nat} {b : Nat} {G : wG}  (I : wI) (hp : pre_X6_learn  I) : Met l yX6_learn (ws_ yX6_learn cX6_learn 2 (some .int)) rm_X6_learn (va_Pc [.ref (b + 111)] (wPr D cs ad b G I)) (va_Qi (fun r I' => post_X6_learn  I r I') (wPo D cs b G) (fun q => b ≤ q)) 0 0 (fun q => b ≤ q) := by
  have hq := vc_X6_learn  I hp
  refine w_met (by decide) (Nat.le_of_ble_eq_true rfl) ?_
  intro p e s m below meth c hX hr hlk hK hE hH ls hl
  have C0 : wCx p m c s _ meth cX6_learn 2 RX6 (some .int) D cs ad b := ⟨hX, hr, hlk, hK, hE⟩
  have hX : CallFix p m c cX6_learn 2 s _ lw_all RX6 := hX
  have hx := hX.1
  have hb := hX.2.1
  have hown := hX.2.2.2.1
  have hts := hX.2.2.2.2
  have hl : lv_has ls 2 [(0, .ref (b + 111))] := hl
  unfold v_X6_learn at hq
  refine lv_aload_n hx hb dX6_learn_0 rfl (lv_at hl 0 rfl) ?_
  refine lv_iconst (v := 0) hx hb dX6_learn_1 (by decide) ?_
  refine w_puti hX hK hH ck6 sh111 0 fw6_0 q4_73 dX6_learn_2 (fun I1 H locs hI hH => ?_)
  have hq := hq I1 hI
  refine lv_aload_n hx hb dX6_learn_5 rfl (lv_at hl 0 rfl) ?_
  obtain ⟨hp, hq⟩ := hq
  refine w_cV hH (w_rV (As := []) (rest := []) hX hK hE hH (c_X6_record   _ hp) ck6 sh111 q4_153 q4_155 qs29 q1_7 q4_156 hd_X6_record ⟨Nat.le_of_ble_eq_true rfl, Nat.le_of_ble_eq_true rfl⟩ ⟨rfl, rfl⟩ rfl hl.1 rfl (Nat.le_of_ble_eq_true rfl) dX6_learn_6 ⟨Nat.zero_le _, Nat.zero_le _⟩) (fun  I2 H locs hpo hH => ?_)
  have hq := hq  I2 hpo
  refine lv_aload_n hx hb dX6_learn_9 rfl (lv_at hl 0 rfl) ?_
  refine w_getr hX hK hH ck6 sh111 1 1 112 fr6_1 rfl q4_74 dX6_learn_10 ?_
  refine lv_bipush (v := 36) hx hb dX6_learn_13 (by decide) ?_
  refine lv_iconst (v := 1) hx hb dX6_learn_15 (by decide) ?_
  obtain ⟨hc, hq⟩ := hq
  refine w_iast hX hK hH (sf6_1 sh111) hc dX6_learn_16 (fun I3 H locs hI hH => ?_)
  have hq := hq I3 hI
  refine lv_iconst (v := 0) hx hb dX6_learn_17 (by decide) ?_
  refine lv_istore_n (lv' := [(1, .int (0 : Int32)), (0, .ref (b + 111))]) hx hb dX6_learn_18 rfl hl (by decide) rfl (fun ls hl => ?_)
  obtain ⟨f, hq⟩ := hq
  exact s_X6_learn_19  C0  f (0 : Int32) _ _ _ _ hq hH (lv_sub hl [1, 0] rfl)
abbrev rm_X6_append : Room := { frames := 1, cells := 0, slots := 0, locals := 22 }
theorem hd_X6_append : yX6_append.cls = RX6 ∧ yX6_append.cls ≠ "java/lang/invoke/MethodHandle" ∧ yX6_append.cls ≠ "java/lang/invoke/VarHandle" ∧ (parseMethodDescriptor yX6_append.desc).map (fun d => d.parameters.length) = some 1 := by decide +kernel
set_option maxRecDepth 100000 in
set_option maxHeartbeats 4000000 in
theorem s_X6_append_30 {x1 : Int32} {Q : Int32 → wI → Prop} (C0 : wCx p m c s args meth cX6_append 2 RX6 (some .int) D cs ad b) : ∀ (t0 : Int32) (I : wI) (H : Heap) (locs : List Loc) (ls : Array Slot), v_X6_append_30 x1 Q t0 I → wH D cs b G I s H locs → lv_has ls 2 [(0, .ref (b + 111)), (1, .int x1)] → W p l e rm_X6_append s m args below meth c H locs 0 0 (MQ below (va_Qi (Q) (wPo D cs b G) (fun q => b ≤ q)) args s 0 0 (fun q => b ≤ q)) (F0 m 30 ls [.int t0, .ref (b + 111)]) := by
  obtain ⟨hX, hr, hlk, hK, hE⟩ := id C0
  have hx := hX.1
  have hb := hX.2.1
  have hown := hX.2.2.2.1
  have hts := hX.2.2.2.2
  intro t0 I H locs ls hq hH hl
  unfold v_X6_append_30 at hq
  refine w_puti hX hK hH ck6 sh111 0 fw6_0 q4_73 dX6_append_30 (fun I1 H locs hI hH => ?_)
  have hq := hq I1 hI
  refine lv_aload_n hx hb dX6_append_33 rfl (lv_at hl 0 rfl) ?_
  refine w_geti hX hK hH ck6 sh111 0 fi6_0 q4_73 dX6_append_34 ?_
  refine lv_if_le (tgt := 42) hx hb dX6_append_37 (by decide) (fun hc => ?_) (fun hc => ?_)
  · have hq := hq.1 hc
    refine lv_aload_n hx hb dX6_append_42 rfl (lv_at hl 0 rfl) ?_
    refine w_getr hX hK hH ck6 sh111 7 5 116 fr6_7 rfl q4_80 dX6_append_43 ?_
    refine lv_aload_n hx hb dX6_append_46 rfl (lv_at hl 0 rfl) ?_
    refine w_geti hX hK hH ck6 sh111 8 fi6_8 q4_81 dX6_append_47 ?_
    refine lv_iload_n hx hb dX6_append_50 rfl (lv_at hl 1 rfl) ?_
    obtain ⟨hc, hq⟩ := hq
    refine w_iast hX hK hH (sf6_7 sh111) hc dX6_append_51 (fun I2 H locs hI hH => ?_)
    have hq := hq I2 hI
    refine lv_aload_n hx hb dX6_append_52 rfl (lv_at hl 0 rfl) ?_
    refine lv_dup hx hb dX6_append_53 rfl ?_
    refine w_geti hX hK hH ck6 sh111 8 fi6_8 q4_81 dX6_append_54 ?_
    refine lv_iconst (v := 1) hx hb dX6_append_57 (by decide) ?_
    refine lv_iadd hx hb dX6_append_58 ?_
    refine w_puti hX hK hH ck6 sh111 8 fw6_8 q4_81 dX6_append_59 (fun I3 H locs hI hH => ?_)
    have hq := hq I3 hI
    refine lv_aload_n hx hb dX6_append_62 rfl (lv_at hl 0 rfl) ?_
    refine w_geti hX hK hH ck6 sh111 8 fi6_8 q4_81 dX6_append_63 ?_
    exact w_eI hX hr hlk hH hq dX6_append_66
  · have hq := hq.2 hc
    refine lv_iconst (v := 0) hx hb dX6_append_40 (by decide) ?_
    exact w_eI hX hr hlk hH hq dX6_append_41
set_option maxRecDepth 100000 in
set_option maxHeartbeats 4000000 in
theorem c_X6_append {l : Launch} {D : va_G} {cs : wC4} {ad : Nat → Nat} {b : Nat} {G : wG} (x1 : Int32) (I : wI) (hp : pre_X6_append x1 I) : Met l yX6_append (ws_ yX6_append cX6_append 2 (some .int)) rm_X6_append (va_Pc [.ref (b + 111), .int x1] (wPr D cs ad b G I)) (va_Qi (fun r I' => post_X6_append x1 I r I') (wPo D cs b G) (fun q => b ≤ q)) 0 0 (fun q => b ≤ q) := by
  have hq := vc_X6_append x1 I hp
  refine w_met (by decide) (Nat.le_of_ble_eq_true rfl) ?_
  intro p e s m below meth c hX hr hlk hK hE hH ls hl
  have C0 : wCx p m c s _ meth cX6_append 2 RX6 (some .int) D cs ad b := ⟨hX, hr, hlk, hK, hE⟩
  have hX : CallFix p m c cX6_append 2 s _ lw_all RX6 := hX
  have hx := hX.1
  have hb := hX.2.1
  have hown := hX.2.2.2.1
  have hts := hX.2.2.2.2
  have hl : lv_has ls 2 [(0, .ref (b + 111)), (1, .int x1)] := hl
  unfold v_X6_append at hq
  refine lv_aload_n hx hb dX6_append_0 rfl (lv_at hl 0 rfl) ?_
  refine lv_iload_n hx hb dX6_append_1 rfl (lv_at hl 1 rfl) ?_
  refine lv_bipush (v := 33) hx hb dX6_append_2 (by decide) ?_
  refine lv_bipush (v := 126) hx hb dX6_append_4 (by decide) ?_
  obtain ⟨hp, hq⟩ := hq
  refine w_cIp hH (w_rS (As := [.int x1, .int (33 : Int32), .int (126 : Int32)]) (rest := [.ref (b + 111)]) hX hK hE hH (c_X6_in  _ _ _ _ hp) q4_168 q4_169 q1_7 q4_170 hd_X6_in.2 ⟨Nat.le_of_ble_eq_true rfl, Nat.le_of_ble_eq_true rfl⟩ ⟨rfl, rfl⟩ rfl hl.1 rfl (Nat.le_of_ble_eq_true rfl) dX6_append_6 ⟨Nat.zero_le _, Nat.zero_le _⟩) (fun r1  H locs hpo hH => ?_)
  have hq := hq r1  hpo
  refine lv_if_ne (tgt := 16) hx hb dX6_append_9 (by decide) (fun hc => ?_) (fun hc => ?_)
  · have hq := hq.1 hc
    refine lv_aload_n hx hb dX6_append_16 rfl (lv_at hl 0 rfl) ?_
    refine w_geti hX hK hH ck6 sh111 8 fi6_8 q4_81 dX6_append_17 ?_
    refine lv_bipush (v := 60) hx hb dX6_append_20 (by decide) ?_
    refine lv_icmp_ne (tgt := 29) hx hb dX6_append_22 (by decide) (fun hc => ?_) (fun hc => ?_)
    · have hq := hq.1 hc
      refine lv_iconst (v := 0) hx hb dX6_append_29 (by decide) ?_
      exact s_X6_append_30  C0  (0 : Int32) _ _ _ _ hq hH (lv_sub hl [0, 1] rfl)
    · have hq := hq.2 hc
      refine lv_iconst (v := 2) hx hb dX6_append_25 (by decide) ?_
      refine lv_goto (tgt := 30) hx hb dX6_append_26 (by decide) ?_
      exact s_X6_append_30  C0  (2 : Int32) _ _ _ _ hq hH (lv_sub hl [0, 1] rfl)
  · have hq := hq.2 hc
    refine lv_iconst (v := 1) hx hb dX6_append_12 (by decide) ?_
    refine lv_goto (tgt := 30) hx hb dX6_append_13 (by decide) ?_
    exact s_X6_append_30  C0  (1 : Int32) _ _ _ _ hq hH (lv_sub hl [0, 1] rfl)
abbrev rm_X6_clearBuffer : Room := { frames := 0, cells := 0, slots := 0, locals := 0 }
theorem hd_X6_clearBuffer : yX6_clearBuffer.cls = RX6 ∧ yX6_clearBuffer.cls ≠ "java/lang/invoke/MethodHandle" ∧ yX6_clearBuffer.cls ≠ "java/lang/invoke/VarHandle" ∧ (parseMethodDescriptor yX6_clearBuffer.desc).map (fun d => d.parameters.length) = some 0 := by decide +kernel
set_option maxRecDepth 100000 in
set_option maxHeartbeats 4000000 in
theorem c_X6_clearBuffer {l : Launch} {D : va_G} {cs : wC4} {ad : Nat → Nat} {b : Nat} {G : wG}  (I : wI) (hp : pre_X6_clearBuffer  I) : Met l yX6_clearBuffer (ws_ yX6_clearBuffer cX6_clearBuffer 2 (some .int)) rm_X6_clearBuffer (va_Pc [.ref (b + 111)] (wPr D cs ad b G I)) (va_Qi (fun r I' => post_X6_clearBuffer  I r I') (wPo D cs b G) (fun q => b ≤ q)) 0 0 (fun q => b ≤ q) := by
  have hq := vc_X6_clearBuffer  I hp
  refine w_met (by decide) (Nat.le_of_ble_eq_true rfl) ?_
  intro p e s m below meth c hX hr hlk hK hE hH ls hl
  have C0 : wCx p m c s _ meth cX6_clearBuffer 2 RX6 (some .int) D cs ad b := ⟨hX, hr, hlk, hK, hE⟩
  have hX : CallFix p m c cX6_clearBuffer 2 s _ lw_all RX6 := hX
  have hx := hX.1
  have hb := hX.2.1
  have hown := hX.2.2.2.1
  have hts := hX.2.2.2.2
  have hl : lv_has ls 2 [(0, .ref (b + 111))] := hl
  unfold v_X6_clearBuffer at hq
  refine lv_aload_n hx hb dX6_clearBuffer_0 rfl (lv_at hl 0 rfl) ?_
  refine lv_iconst (v := 0) hx hb dX6_clearBuffer_1 (by decide) ?_
  refine w_puti hX hK hH ck6 sh111 0 fw6_0 q4_73 dX6_clearBuffer_2 (fun I1 H locs hI hH => ?_)
  have hq := hq I1 hI
  refine lv_aload_n hx hb dX6_clearBuffer_5 rfl (lv_at hl 0 rfl) ?_
  refine w_geti hX hK hH ck6 sh111 8 fi6_8 q4_81 dX6_clearBuffer_6 ?_
  refine lv_istore_n (lv' := [(1, .int (I1 111 8)), (0, .ref (b + 111))]) hx hb dX6_clearBuffer_9 rfl hl (by decide) rfl (fun ls hl => ?_)
  refine lv_aload_n hx hb dX6_clearBuffer_10 rfl (lv_at hl 1 rfl) ?_
  refine lv_iconst (v := 0) hx hb dX6_clearBuffer_11 (by decide) ?_
  refine w_puti hX hK hH ck6 sh111 8 fw6_8 q4_81 dX6_clearBuffer_12 (fun I2 H locs hI hH => ?_)
  have hq := hq I2 hI
  refine lv_iload_n hx hb dX6_clearBuffer_15 rfl (lv_at hl 0 rfl) ?_
  exact w_eI hX hr hlk hH hq dX6_clearBuffer_16
abbrev rm_X6_firstError : Room := { frames := 3, cells := 0, slots := 0, locals := 65 }
theorem hd_X6_firstError : yX6_firstError.cls = RX6 ∧ yX6_firstError.cls ≠ "java/lang/invoke/MethodHandle" ∧ yX6_firstError.cls ≠ "java/lang/invoke/VarHandle" ∧ (parseMethodDescriptor yX6_firstError.desc).map (fun d => d.parameters.length) = some 0 := by decide +kernel
set_option maxRecDepth 100000 in
set_option maxHeartbeats 4000000 in
theorem c_X6_firstError {l : Launch} {D : va_G} {cs : wC4} {ad : Nat → Nat} {b : Nat} {G : wG}  (I : wI) (hp : pre_X6_firstError  I) : Met l yX6_firstError (ws_ yX6_firstError cX6_firstError 1 (some .int)) rm_X6_firstError (va_Pc [.ref (b + 111)] (wPr D cs ad b G I)) (va_Qi (fun r I' => post_X6_firstError  I r I') (wPo D cs b G) (fun q => b ≤ q)) 0 0 (fun q => b ≤ q) := by
  have hq := vc_X6_firstError  I hp
  refine w_met (by decide) (Nat.le_of_ble_eq_true rfl) ?_
  intro p e s m below meth c hX hr hlk hK hE hH ls hl
  have C0 : wCx p m c s _ meth cX6_firstError 1 RX6 (some .int) D cs ad b := ⟨hX, hr, hlk, hK, hE⟩
  have hX : CallFix p m c cX6_firstError 1 s _ lw_all RX6 := hX
  have hx := hX.1
  have hb := hX.2.1
  have hown := hX.2.2.2.1
  have hts := hX.2.2.2.2
  have hl : lv_has ls 1 [(0, .ref (b + 111))] := hl
  unfold v_X6_firstError at hq
  refine lv_aload_n hx hb dX6_firstError_0 rfl (lv_at hl 0 rfl) ?_
  refine lv_iconst (v := 0) hx hb dX6_firstError_1 (by decide) ?_
  refine w_puti hX hK hH ck6 sh111 0 fw6_0 q4_73 dX6_firstError_2 (fun I1 H locs hI hH => ?_)
  have hq := hq I1 hI
  refine lv_aload_n hx hb dX6_firstError_5 rfl (lv_at hl 0 rfl) ?_
  obtain ⟨hp, hq⟩ := hq
  refine w_cI hH (w_rV (As := []) (rest := []) hX hK hE hH (c_X6_findError   _ hp) ck6 sh111 q4_218 q4_220 qs40 q1_7 q4_221 hd_X6_findError ⟨Nat.le_of_ble_eq_true rfl, Nat.le_of_ble_eq_true rfl⟩ ⟨rfl, rfl⟩ rfl hl.1 rfl (Nat.le_of_ble_eq_true rfl) dX6_firstError_6 ⟨Nat.zero_le _, Nat.zero_le _⟩) (fun r2 I3 H locs hpo hH => ?_)
  have hq := hq r2 I3 hpo
  exact w_eI hX hr hlk hH hq dX6_firstError_9
end
