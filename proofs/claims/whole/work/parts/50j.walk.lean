section
variable {p : Program} {l : Launch} {e : Env} {s : State} {m : MethodId} {args : Array Value} {below : List Frame} {meth : Method} {c : Code} {D : va_G} {cs : wC4} {ad : Nat → Nat} {b : Nat} {G : wG}
abbrev rm_X6_record : Room := { frames := 0, cells := 0, slots := 0, locals := 0 }
theorem hd_X6_record : yX6_record.cls = RX6 ∧ yX6_record.cls ≠ "java/lang/invoke/MethodHandle" ∧ yX6_record.cls ≠ "java/lang/invoke/VarHandle" ∧ (parseMethodDescriptor yX6_record.desc).map (fun d => d.parameters.length) = some 0 := by decide +kernel
set_option maxRecDepth 100000 in
set_option maxHeartbeats 4000000 in
theorem s_X6_record_51 {Q : wI → Prop} (C0 : wCx p m c s args meth cX6_record 2 RX6 none D cs ad b) : ∀ (f : Nat) (v1 : Int32) (I : wI) (H : Heap) (locs : List Loc) (ls : Array Slot), v_X6_record_51 Q f v1 I → wH D cs b G I s H locs → lv_has ls 2 [(0, .ref (b + 111)), (1, .int v1)] → W p l e rm_X6_record s m args below meth c H locs 0 0 (MQ below (va_Qv (Q) (wPo D cs b G) (fun q => b ≤ q)) args s 0 0 (fun q => b ≤ q)) (F0 m 51 ls []) := by
  obtain ⟨hX, hr, hlk, hK, hE⟩ := id C0
  have hx := hX.1
  have hb := hX.2.1
  have hown := hX.2.2.2.1
  have hts := hX.2.2.2.2
  intro f
  induction f with
  | zero =>
    intro v1 I H locs ls hq
    exact hq.elim
  | succ f hK51 =>
    intro v1 I H locs ls hq hH hl
    have hq : g_X6_record_51 Q (v_X6_record_51 Q f) v1 I := hq
    unfold g_X6_record_51 at hq
    refine lv_iload_n hx hb dX6_record_51 rfl (lv_at hl 1 rfl) ?_
    refine lv_bipush (v := 49) hx hb dX6_record_52 (by decide) ?_
    refine lv_icmp_ge (tgt := 83) hx hb dX6_record_54 (by decide) (fun hc => ?_) (fun hc => ?_)
    · have hq := hq.1 hc
      refine lv_aload_n hx hb dX6_record_83 rfl (lv_at hl 0 rfl) ?_
      refine lv_dup hx hb dX6_record_84 rfl ?_
      refine w_geti hX hK hH ck6 sh111 4 fi6_4 q4_77 dX6_record_85 ?_
      refine lv_iconst (v := 1) hx hb dX6_record_88 (by decide) ?_
      refine lv_iadd hx hb dX6_record_89 ?_
      refine w_puti hX hK hH ck6 sh111 4 fw6_4 q4_77 dX6_record_90 (fun I1 H locs hI hH => ?_)
      have hq := hq I1 hI
      exact w_eV hX hr hlk hH hq dX6_record_93
    · have hq := hq.2 hc
      refine lv_aload_n hx hb dX6_record_57 rfl (lv_at hl 0 rfl) ?_
      refine w_getr hX hK hH ck6 sh111 3 3 114 fr6_3 rfl q4_76 dX6_record_58 ?_
      refine lv_bipush (v := 49) hx hb dX6_record_61 (by decide) ?_
      refine lv_aload_n hx hb dX6_record_63 rfl (lv_at hl 0 rfl) ?_
      refine w_geti hX hK hH ck6 sh111 4 fi6_4 q4_77 dX6_record_64 ?_
      refine lv_imul hx hb dX6_record_67 ?_
      refine lv_iload_n hx hb dX6_record_68 rfl (lv_at hl 1 rfl) ?_
      refine lv_iadd hx hb dX6_record_69 ?_
      refine lv_aload_n hx hb dX6_record_70 rfl (lv_at hl 0 rfl) ?_
      refine w_getr hX hK hH ck6 sh111 1 1 112 fr6_1 rfl q4_74 dX6_record_71 ?_
      refine lv_iload_n hx hb dX6_record_74 rfl (lv_at hl 1 rfl) ?_
      obtain ⟨hc, hq⟩ := hq
      refine w_iald hX hK hH (sf6_1 sh111) hc dX6_record_75 ?_
      obtain ⟨hc, hq⟩ := hq
      refine w_iast hX hK hH (sf6_3 sh111) hc dX6_record_76 (fun I2 H locs hI hH => ?_)
      have hq := hq I2 hI
      refine lv_iinc (v := (v1 + (1 : Int32))) (lv' := [(1, .int (v1 + (1 : Int32))), (0, .ref (b + 111))]) hx hb dX6_record_77 hl (k := 1) rfl rfl (by decide) rfl (fun ls hl => ?_)
      refine lv_goto (tgt := 51) hx hb dX6_record_80 (by decide) ?_
      exact hK51 (v1 + (1 : Int32)) _ _ _ _ hq hH (lv_sub hl [1, 0] rfl)
set_option maxRecDepth 100000 in
set_option maxHeartbeats 4000000 in
theorem s_X6_record_49 {Q : wI → Prop} (C0 : wCx p m c s args meth cX6_record 2 RX6 none D cs ad b) : ∀  (I : wI) (H : Heap) (locs : List Loc) (ls : Array Slot), v_X6_record_49 Q  I → wH D cs b G I s H locs → lv_has ls 2 [(0, .ref (b + 111))] → W p l e rm_X6_record s m args below meth c H locs 0 0 (MQ below (va_Qv (Q) (wPo D cs b G) (fun q => b ≤ q)) args s 0 0 (fun q => b ≤ q)) (F0 m 49 ls []) := by
  obtain ⟨hX, hr, hlk, hK, hE⟩ := id C0
  have hx := hX.1
  have hb := hX.2.1
  have hown := hX.2.2.2.1
  have hts := hX.2.2.2.2
  intro  I H locs ls hq hH hl
  unfold v_X6_record_49 at hq
  refine lv_iconst (v := 0) hx hb dX6_record_49 (by decide) ?_
  refine lv_istore_n (lv' := [(1, .int (0 : Int32)), (0, .ref (b + 111))]) hx hb dX6_record_50 rfl hl (by decide) rfl (fun ls hl => ?_)
  obtain ⟨f, hq⟩ := hq
  exact s_X6_record_51  C0  f (0 : Int32) _ _ _ _ hq hH (lv_sub hl [1, 0] rfl)
set_option maxRecDepth 100000 in
set_option maxHeartbeats 4000000 in
theorem s_X6_record_11 {Q : wI → Prop} (C0 : wCx p m c s args meth cX6_record 2 RX6 none D cs ad b) : ∀ (f : Nat) (v1 : Int32) (I : wI) (H : Heap) (locs : List Loc) (ls : Array Slot), v_X6_record_11 Q f v1 I → wH D cs b G I s H locs → lv_has ls 2 [(0, .ref (b + 111)), (1, .int v1)] → W p l e rm_X6_record s m args below meth c H locs 0 0 (MQ below (va_Qv (Q) (wPo D cs b G) (fun q => b ≤ q)) args s 0 0 (fun q => b ≤ q)) (F0 m 11 ls []) := by
  obtain ⟨hX, hr, hlk, hK, hE⟩ := id C0
  have hx := hX.1
  have hb := hX.2.1
  have hown := hX.2.2.2.1
  have hts := hX.2.2.2.2
  intro f
  induction f with
  | zero =>
    intro v1 I H locs ls hq
    exact hq.elim
  | succ f hK11 =>
    intro v1 I H locs ls hq hH hl
    have hq : g_X6_record_11 Q (v_X6_record_11 Q f) v1 I := hq
    unfold g_X6_record_11 at hq
    refine lv_iload_n hx hb dX6_record_11 rfl (lv_at hl 1 rfl) ?_
    refine lv_sipush (v := 245) hx hb dX6_record_12 (by decide) ?_
    refine lv_icmp_ge (tgt := 39) hx hb dX6_record_15 (by decide) (fun hc => ?_) (fun hc => ?_)
    · have hq := hq.1 hc
      refine lv_aload_n hx hb dX6_record_39 rfl (lv_at hl 0 rfl) ?_
      refine lv_dup hx hb dX6_record_40 rfl ?_
      refine w_geti hX hK hH ck6 sh111 4 fi6_4 q4_77 dX6_record_41 ?_
      refine lv_iconst (v := 1) hx hb dX6_record_44 (by decide) ?_
      refine lv_isub hx hb dX6_record_45 ?_
      refine w_puti hX hK hH ck6 sh111 4 fw6_4 q4_77 dX6_record_46 (fun I1 H locs hI hH => ?_)
      have hq := hq I1 hI
      exact s_X6_record_49  C0   _ _ _ _ hq hH (lv_sub hl [0] rfl)
    · have hq := hq.2 hc
      refine lv_aload_n hx hb dX6_record_18 rfl (lv_at hl 0 rfl) ?_
      refine w_getr hX hK hH ck6 sh111 3 3 114 fr6_3 rfl q4_76 dX6_record_19 ?_
      refine lv_iload_n hx hb dX6_record_22 rfl (lv_at hl 1 rfl) ?_
      refine lv_aload_n hx hb dX6_record_23 rfl (lv_at hl 0 rfl) ?_
      refine w_getr hX hK hH ck6 sh111 3 3 114 fr6_3 rfl q4_76 dX6_record_24 ?_
      refine lv_bipush (v := 49) hx hb dX6_record_27 (by decide) ?_
      refine lv_iload_n hx hb dX6_record_29 rfl (lv_at hl 1 rfl) ?_
      refine lv_iadd hx hb dX6_record_30 ?_
      obtain ⟨hc, hq⟩ := hq
      refine w_iald hX hK hH (sf6_3 sh111) hc dX6_record_31 ?_
      obtain ⟨hc, hq⟩ := hq
      refine w_iast hX hK hH (sf6_3 sh111) hc dX6_record_32 (fun I2 H locs hI hH => ?_)
      have hq := hq I2 hI
      refine lv_iinc (v := (v1 + (1 : Int32))) (lv' := [(1, .int (v1 + (1 : Int32))), (0, .ref (b + 111))]) hx hb dX6_record_33 hl (k := 1) rfl rfl (by decide) rfl (fun ls hl => ?_)
      refine lv_goto (tgt := 11) hx hb dX6_record_36 (by decide) ?_
      exact hK11 (v1 + (1 : Int32)) _ _ _ _ hq hH (lv_sub hl [1, 0] rfl)
set_option maxRecDepth 100000 in
set_option maxHeartbeats 4000000 in
theorem c_X6_record {l : Launch} {D : va_G} {cs : wC4} {ad : Nat → Nat} {b : Nat} {G : wG}  (I : wI) (hp : pre_X6_record  I) : Met l yX6_record (ws_ yX6_record cX6_record 2 none) rm_X6_record (va_Pc [.ref (b + 111)] (wPr D cs ad b G I)) (va_Qv (fun I' => post_X6_record  I I') (wPo D cs b G) (fun q => b ≤ q)) 0 0 (fun q => b ≤ q) := by
  have hq := vc_X6_record  I hp
  refine w_met (by decide) (Nat.le_of_ble_eq_true rfl) ?_
  intro p e s m below meth c hX hr hlk hK hE hH ls hl
  have C0 : wCx p m c s _ meth cX6_record 2 RX6 none D cs ad b := ⟨hX, hr, hlk, hK, hE⟩
  have hX : CallFix p m c cX6_record 2 s _ lw_all RX6 := hX
  have hx := hX.1
  have hb := hX.2.1
  have hown := hX.2.2.2.1
  have hts := hX.2.2.2.2
  have hl : lv_has ls 2 [(0, .ref (b + 111))] := hl
  unfold v_X6_record at hq
  refine lv_aload_n hx hb dX6_record_0 rfl (lv_at hl 0 rfl) ?_
  refine w_geti hX hK hH ck6 sh111 4 fi6_4 q4_77 dX6_record_1 ?_
  refine lv_bipush (v := 6) hx hb dX6_record_4 (by decide) ?_
  refine lv_icmp_ne (tgt := 49) hx hb dX6_record_6 (by decide) (fun hc => ?_) (fun hc => ?_)
  · have hq := hq.1 hc
    exact s_X6_record_49  C0   _ _ _ _ hq hH (lv_sub hl [0] rfl)
  · have hq := hq.2 hc
    refine lv_iconst (v := 0) hx hb dX6_record_9 (by decide) ?_
    refine lv_istore_n (lv' := [(1, .int (0 : Int32)), (0, .ref (b + 111))]) hx hb dX6_record_10 rfl hl (by decide) rfl (fun ls hl => ?_)
    obtain ⟨f, hq⟩ := hq
    exact s_X6_record_11  C0  f (0 : Int32) _ _ _ _ hq hH (lv_sub hl [1, 0] rfl)
abbrev rm_X6_undo : Room := { frames := 0, cells := 0, slots := 0, locals := 0 }
theorem hd_X6_undo : yX6_undo.cls = RX6 ∧ yX6_undo.cls ≠ "java/lang/invoke/MethodHandle" ∧ yX6_undo.cls ≠ "java/lang/invoke/VarHandle" ∧ (parseMethodDescriptor yX6_undo.desc).map (fun d => d.parameters.length) = some 0 := by decide +kernel
set_option maxRecDepth 100000 in
set_option maxHeartbeats 4000000 in
theorem s_X6_undo_37 {Q : Int32 → wI → Prop} (C0 : wCx p m c s args meth cX6_undo 2 RX6 (some .int) D cs ad b) : ∀ (f : Nat) (v1 : Int32) (I : wI) (H : Heap) (locs : List Loc) (ls : Array Slot), v_X6_undo_37 Q f v1 I → wH D cs b G I s H locs → lv_has ls 2 [(0, .ref (b + 111)), (1, .int v1)] → W p l e rm_X6_undo s m args below meth c H locs 0 0 (MQ below (va_Qi (Q) (wPo D cs b G) (fun q => b ≤ q)) args s 0 0 (fun q => b ≤ q)) (F0 m 37 ls []) := by
  obtain ⟨hX, hr, hlk, hK, hE⟩ := id C0
  have hx := hX.1
  have hb := hX.2.1
  have hown := hX.2.2.2.1
  have hts := hX.2.2.2.2
  intro f
  induction f with
  | zero =>
    intro v1 I H locs ls hq
    exact hq.elim
  | succ f hK37 =>
    intro v1 I H locs ls hq hH hl
    have hq : g_X6_undo_37 Q (v_X6_undo_37 Q f) v1 I := hq
    unfold g_X6_undo_37 at hq
    refine lv_iload_n hx hb dX6_undo_37 rfl (lv_at hl 1 rfl) ?_
    refine lv_bipush (v := 49) hx hb dX6_undo_38 (by decide) ?_
    refine lv_icmp_ge (tgt := 69) hx hb dX6_undo_40 (by decide) (fun hc => ?_) (fun hc => ?_)
    · have hq := hq.1 hc
      refine lv_aload_n hx hb dX6_undo_69 rfl (lv_at hl 0 rfl) ?_
      refine w_geti hX hK hH ck6 sh111 4 fi6_4 q4_77 dX6_undo_70 ?_
      exact w_eI hX hr hlk hH hq dX6_undo_73
    · have hq := hq.2 hc
      refine lv_aload_n hx hb dX6_undo_43 rfl (lv_at hl 0 rfl) ?_
      refine w_getr hX hK hH ck6 sh111 1 1 112 fr6_1 rfl q4_74 dX6_undo_44 ?_
      refine lv_iload_n hx hb dX6_undo_47 rfl (lv_at hl 1 rfl) ?_
      refine lv_aload_n hx hb dX6_undo_48 rfl (lv_at hl 0 rfl) ?_
      refine w_getr hX hK hH ck6 sh111 3 3 114 fr6_3 rfl q4_76 dX6_undo_49 ?_
      refine lv_bipush (v := 49) hx hb dX6_undo_52 (by decide) ?_
      refine lv_aload_n hx hb dX6_undo_54 rfl (lv_at hl 0 rfl) ?_
      refine w_geti hX hK hH ck6 sh111 4 fi6_4 q4_77 dX6_undo_55 ?_
      refine lv_imul hx hb dX6_undo_58 ?_
      refine lv_iload_n hx hb dX6_undo_59 rfl (lv_at hl 1 rfl) ?_
      refine lv_iadd hx hb dX6_undo_60 ?_
      obtain ⟨hc, hq⟩ := hq
      refine w_iald hX hK hH (sf6_3 sh111) hc dX6_undo_61 ?_
      obtain ⟨hc, hq⟩ := hq
      refine w_iast hX hK hH (sf6_1 sh111) hc dX6_undo_62 (fun I1 H locs hI hH => ?_)
      have hq := hq I1 hI
      refine lv_iinc (v := (v1 + (1 : Int32))) (lv' := [(1, .int (v1 + (1 : Int32))), (0, .ref (b + 111))]) hx hb dX6_undo_63 hl (k := 1) rfl rfl (by decide) rfl (fun ls hl => ?_)
      refine lv_goto (tgt := 37) hx hb dX6_undo_66 (by decide) ?_
      exact hK37 (v1 + (1 : Int32)) _ _ _ _ hq hH (lv_sub hl [1, 0] rfl)
set_option maxRecDepth 100000 in
set_option maxHeartbeats 4000000 in
theorem s_X6_undo_13 {Q : Int32 → wI → Prop} (C0 : wCx p m c s args meth cX6_undo 2 RX6 (some .int) D cs ad b) : ∀ (t0 : Int32) (I : wI) (H : Heap) (locs : List Loc) (ls : Array Slot), v_X6_undo_13 Q t0 I → wH D cs b G I s H locs → lv_has ls 2 [(0, .ref (b + 111))] → W p l e rm_X6_undo s m args below meth c H locs 0 0 (MQ below (va_Qi (Q) (wPo D cs b G) (fun q => b ≤ q)) args s 0 0 (fun q => b ≤ q)) (F0 m 13 ls [.int t0, .ref (b + 111)]) := by
  obtain ⟨hX, hr, hlk, hK, hE⟩ := id C0
  have hx := hX.1
  have hb := hX.2.1
  have hown := hX.2.2.2.1
  have hts := hX.2.2.2.2
  intro t0 I H locs ls hq hH hl
  unfold v_X6_undo_13 at hq
  refine w_puti hX hK hH ck6 sh111 0 fw6_0 q4_73 dX6_undo_13 (fun I1 H locs hI hH => ?_)
  have hq := hq I1 hI
  refine lv_aload_n hx hb dX6_undo_16 rfl (lv_at hl 0 rfl) ?_
  refine w_geti hX hK hH ck6 sh111 0 fi6_0 q4_73 dX6_undo_17 ?_
  refine lv_if_le (tgt := 25) hx hb dX6_undo_20 (by decide) (fun hc => ?_) (fun hc => ?_)
  · have hq := hq.1 hc
    refine lv_aload_n hx hb dX6_undo_25 rfl (lv_at hl 0 rfl) ?_
    refine lv_dup hx hb dX6_undo_26 rfl ?_
    refine w_geti hX hK hH ck6 sh111 4 fi6_4 q4_77 dX6_undo_27 ?_
    refine lv_iconst (v := 1) hx hb dX6_undo_30 (by decide) ?_
    refine lv_isub hx hb dX6_undo_31 ?_
    refine w_puti hX hK hH ck6 sh111 4 fw6_4 q4_77 dX6_undo_32 (fun I2 H locs hI hH => ?_)
    have hq := hq I2 hI
    refine lv_iconst (v := 0) hx hb dX6_undo_35 (by decide) ?_
    refine lv_istore_n (lv' := [(1, .int (0 : Int32)), (0, .ref (b + 111))]) hx hb dX6_undo_36 rfl hl (by decide) rfl (fun ls hl => ?_)
    obtain ⟨f, hq⟩ := hq
    exact s_X6_undo_37  C0  f (0 : Int32) _ _ _ _ hq hH (lv_sub hl [1, 0] rfl)
  · have hq := hq.2 hc
    refine lv_iconst (v := 0) hx hb dX6_undo_23 (by decide) ?_
    exact w_eI hX hr hlk hH hq dX6_undo_24
set_option maxRecDepth 100000 in
set_option maxHeartbeats 4000000 in
theorem c_X6_undo {l : Launch} {D : va_G} {cs : wC4} {ad : Nat → Nat} {b : Nat} {G : wG}  (I : wI) (hp : pre_X6_undo  I) : Met l yX6_undo (ws_ yX6_undo cX6_undo 2 (some .int)) rm_X6_undo (va_Pc [.ref (b + 111)] (wPr D cs ad b G I)) (va_Qi (fun r I' => post_X6_undo  I r I') (wPo D cs b G) (fun q => b ≤ q)) 0 0 (fun q => b ≤ q) := by
  have hq := vc_X6_undo  I hp
  refine w_met (by decide) (Nat.le_of_ble_eq_true rfl) ?_
  intro p e s m below meth c hX hr hlk hK hE hH ls hl
  have C0 : wCx p m c s _ meth cX6_undo 2 RX6 (some .int) D cs ad b := ⟨hX, hr, hlk, hK, hE⟩
  have hX : CallFix p m c cX6_undo 2 s _ lw_all RX6 := hX
  have hx := hX.1
  have hb := hX.2.1
  have hown := hX.2.2.2.1
  have hts := hX.2.2.2.2
  have hl : lv_has ls 2 [(0, .ref (b + 111))] := hl
  unfold v_X6_undo at hq
  refine lv_aload_n hx hb dX6_undo_0 rfl (lv_at hl 0 rfl) ?_
  refine lv_aload_n hx hb dX6_undo_1 rfl (lv_at hl 0 rfl) ?_
  refine w_geti hX hK hH ck6 sh111 4 fi6_4 q4_77 dX6_undo_2 ?_
  refine lv_if_ne (tgt := 12) hx hb dX6_undo_5 (by decide) (fun hc => ?_) (fun hc => ?_)
  · have hq := hq.1 hc
    refine lv_iconst (v := 0) hx hb dX6_undo_12 (by decide) ?_
    exact s_X6_undo_13  C0  (0 : Int32) _ _ _ _ hq hH (lv_sub hl [0] rfl)
  · have hq := hq.2 hc
    refine lv_iconst (v := 1) hx hb dX6_undo_8 (by decide) ?_
    refine lv_goto (tgt := 13) hx hb dX6_undo_9 (by decide) ?_
    exact s_X6_undo_13  C0  (1 : Int32) _ _ _ _ hq hH (lv_sub hl [0] rfl)
abbrev rm_X6_keep : Room := { frames := 0, cells := 0, slots := 0, locals := 0 }
theorem hd_X6_keep : yX6_keep.cls = RX6 ∧ yX6_keep.cls ≠ "java/lang/invoke/MethodHandle" ∧ yX6_keep.cls ≠ "java/lang/invoke/VarHandle" ∧ (parseMethodDescriptor yX6_keep.desc).map (fun d => d.parameters.length) = some 0 := by decide +kernel
set_option maxRecDepth 100000 in
set_option maxHeartbeats 4000000 in
theorem s_X6_keep_7 {Q : Int32 → wI → Prop} (C0 : wCx p m c s args meth cX6_keep 2 RX6 (some .int) D cs ad b) : ∀ (f : Nat) (v1 : Int32) (I : wI) (H : Heap) (locs : List Loc) (ls : Array Slot), v_X6_keep_7 Q f v1 I → wH D cs b G I s H locs → lv_has ls 2 [(0, .ref (b + 111)), (1, .int v1)] → W p l e rm_X6_keep s m args below meth c H locs 0 0 (MQ below (va_Qi (Q) (wPo D cs b G) (fun q => b ≤ q)) args s 0 0 (fun q => b ≤ q)) (F0 m 7 ls []) := by
  obtain ⟨hX, hr, hlk, hK, hE⟩ := id C0
  have hx := hX.1
  have hb := hX.2.1
  have hown := hX.2.2.2.1
  have hts := hX.2.2.2.2
  intro f
  induction f with
  | zero =>
    intro v1 I H locs ls hq
    exact hq.elim
  | succ f hK7 =>
    intro v1 I H locs ls hq hH hl
    have hq : g_X6_keep_7 Q (v_X6_keep_7 Q f) v1 I := hq
    unfold g_X6_keep_7 at hq
    refine lv_iload_n hx hb dX6_keep_7 rfl (lv_at hl 1 rfl) ?_
    refine lv_bipush (v := 49) hx hb dX6_keep_8 (by decide) ?_
    refine lv_icmp_ge (tgt := 31) hx hb dX6_keep_10 (by decide) (fun hc => ?_) (fun hc => ?_)
    · have hq := hq.1 hc
      refine lv_aload_n hx hb dX6_keep_31 rfl (lv_at hl 0 rfl) ?_
      refine lv_iconst (v := 1) hx hb dX6_keep_32 (by decide) ?_
      refine w_putz (by decide) hX hK hH ck6 sh111 6 fw6_6 q4_79 dX6_keep_33 (fun I1 H locs hI hH => ?_)
      have hq := hq I1 hI
      refine lv_aload_n hx hb dX6_keep_36 rfl (lv_at hl 0 rfl) ?_
      refine w_getr hX hK hH ck6 sh111 1 1 112 fr6_1 rfl q4_74 dX6_keep_37 ?_
      refine lv_bipush (v := 33) hx hb dX6_keep_40 (by decide) ?_
      obtain ⟨hc, hq⟩ := hq
      refine w_iald hX hK hH (sf6_1 sh111) hc dX6_keep_42 ?_
      exact w_eI hX hr hlk hH hq dX6_keep_43
    · have hq := hq.2 hc
      refine lv_aload_n hx hb dX6_keep_13 rfl (lv_at hl 0 rfl) ?_
      refine w_getr hX hK hH ck6 sh111 5 4 115 fr6_5 rfl q4_78 dX6_keep_14 ?_
      refine lv_iload_n hx hb dX6_keep_17 rfl (lv_at hl 1 rfl) ?_
      refine lv_aload_n hx hb dX6_keep_18 rfl (lv_at hl 0 rfl) ?_
      refine w_getr hX hK hH ck6 sh111 1 1 112 fr6_1 rfl q4_74 dX6_keep_19 ?_
      refine lv_iload_n hx hb dX6_keep_22 rfl (lv_at hl 1 rfl) ?_
      obtain ⟨hc, hq⟩ := hq
      refine w_iald hX hK hH (sf6_1 sh111) hc dX6_keep_23 ?_
      obtain ⟨hc, hq⟩ := hq
      refine w_iast hX hK hH (sf6_5 sh111) hc dX6_keep_24 (fun I2 H locs hI hH => ?_)
      have hq := hq I2 hI
      refine lv_iinc (v := (v1 + (1 : Int32))) (lv' := [(1, .int (v1 + (1 : Int32))), (0, .ref (b + 111))]) hx hb dX6_keep_25 hl (k := 1) rfl rfl (by decide) rfl (fun ls hl => ?_)
      refine lv_goto (tgt := 7) hx hb dX6_keep_28 (by decide) ?_
      exact hK7 (v1 + (1 : Int32)) _ _ _ _ hq hH (lv_sub hl [1, 0] rfl)
set_option maxRecDepth 100000 in
set_option maxHeartbeats 4000000 in
theorem c_X6_keep {l : Launch} {D : va_G} {cs : wC4} {ad : Nat → Nat} {b : Nat} {G : wG}  (I : wI) (hp : pre_X6_keep  I) : Met l yX6_keep (ws_ yX6_keep cX6_keep 2 (some .int)) rm_X6_keep (va_Pc [.ref (b + 111)] (wPr D cs ad b G I)) (va_Qi (fun r I' => post_X6_keep  I r I') (wPo D cs b G) (fun q => b ≤ q)) 0 0 (fun q => b ≤ q) := by
  have hq := vc_X6_keep  I hp
  refine w_met (by decide) (Nat.le_of_ble_eq_true rfl) ?_
  intro p e s m below meth c hX hr hlk hK hE hH ls hl
  have C0 : wCx p m c s _ meth cX6_keep 2 RX6 (some .int) D cs ad b := ⟨hX, hr, hlk, hK, hE⟩
  have hX : CallFix p m c cX6_keep 2 s _ lw_all RX6 := hX
  have hx := hX.1
  have hb := hX.2.1
  have hown := hX.2.2.2.1
  have hts := hX.2.2.2.2
  have hl : lv_has ls 2 [(0, .ref (b + 111))] := hl
  unfold v_X6_keep at hq
  refine lv_aload_n hx hb dX6_keep_0 rfl (lv_at hl 0 rfl) ?_
  refine lv_iconst (v := 0) hx hb dX6_keep_1 (by decide) ?_
  refine w_puti hX hK hH ck6 sh111 0 fw6_0 q4_73 dX6_keep_2 (fun I1 H locs hI hH => ?_)
  have hq := hq I1 hI
  refine lv_iconst (v := 0) hx hb dX6_keep_5 (by decide) ?_
  refine lv_istore_n (lv' := [(1, .int (0 : Int32)), (0, .ref (b + 111))]) hx hb dX6_keep_6 rfl hl (by decide) rfl (fun ls hl => ?_)
  obtain ⟨f, hq⟩ := hq
  exact s_X6_keep_7  C0  f (0 : Int32) _ _ _ _ hq hH (lv_sub hl [1, 0] rfl)
abbrev rm_X6_goBack : Room := { frames := 1, cells := 0, slots := 0, locals := 21 }
theorem hd_X6_goBack : yX6_goBack.cls = RX6 ∧ yX6_goBack.cls ≠ "java/lang/invoke/MethodHandle" ∧ yX6_goBack.cls ≠ "java/lang/invoke/VarHandle" ∧ (parseMethodDescriptor yX6_goBack.desc).map (fun d => d.parameters.length) = some 0 := by decide +kernel
set_option maxRecDepth 100000 in
set_option maxHeartbeats 4000000 in
theorem s_X6_goBack_31 {Q : Int32 → wI → Prop} (C0 : wCx p m c s args meth cX6_goBack 2 RX6 (some .int) D cs ad b) : ∀ (f : Nat) (v1 : Int32) (I : wI) (H : Heap) (locs : List Loc) (ls : Array Slot), v_X6_goBack_31 Q f v1 I → wH D cs b G I s H locs → lv_has ls 2 [(0, .ref (b + 111)), (1, .int v1)] → W p l e rm_X6_goBack s m args below meth c H locs 0 0 (MQ below (va_Qi (Q) (wPo D cs b G) (fun q => b ≤ q)) args s 0 0 (fun q => b ≤ q)) (F0 m 31 ls []) := by
  obtain ⟨hX, hr, hlk, hK, hE⟩ := id C0
  have hx := hX.1
  have hb := hX.2.1
  have hown := hX.2.2.2.1
  have hts := hX.2.2.2.2
  intro f
  induction f with
  | zero =>
    intro v1 I H locs ls hq
    exact hq.elim
  | succ f hK31 =>
    intro v1 I H locs ls hq hH hl
    have hq : g_X6_goBack_31 Q (v_X6_goBack_31 Q f) v1 I := hq
    unfold g_X6_goBack_31 at hq
    refine lv_iload_n hx hb dX6_goBack_31 rfl (lv_at hl 1 rfl) ?_
    refine lv_bipush (v := 49) hx hb dX6_goBack_32 (by decide) ?_
    refine lv_icmp_ge (tgt := 55) hx hb dX6_goBack_34 (by decide) (fun hc => ?_) (fun hc => ?_)
    · have hq := hq.1 hc
      refine lv_aload_n hx hb dX6_goBack_55 rfl (lv_at hl 0 rfl) ?_
      refine w_getr hX hK hH ck6 sh111 1 1 112 fr6_1 rfl q4_74 dX6_goBack_56 ?_
      refine lv_bipush (v := 33) hx hb dX6_goBack_59 (by decide) ?_
      obtain ⟨hc, hq⟩ := hq
      refine w_iald hX hK hH (sf6_1 sh111) hc dX6_goBack_61 ?_
      exact w_eI hX hr hlk hH hq dX6_goBack_62
    · have hq := hq.2 hc
      refine lv_aload_n hx hb dX6_goBack_37 rfl (lv_at hl 0 rfl) ?_
      refine w_getr hX hK hH ck6 sh111 1 1 112 fr6_1 rfl q4_74 dX6_goBack_38 ?_
      refine lv_iload_n hx hb dX6_goBack_41 rfl (lv_at hl 1 rfl) ?_
      refine lv_aload_n hx hb dX6_goBack_42 rfl (lv_at hl 0 rfl) ?_
      refine w_getr hX hK hH ck6 sh111 5 4 115 fr6_5 rfl q4_78 dX6_goBack_43 ?_
      refine lv_iload_n hx hb dX6_goBack_46 rfl (lv_at hl 1 rfl) ?_
      obtain ⟨hc, hq⟩ := hq
      refine w_iald hX hK hH (sf6_5 sh111) hc dX6_goBack_47 ?_
      obtain ⟨hc, hq⟩ := hq
      refine w_iast hX hK hH (sf6_1 sh111) hc dX6_goBack_48 (fun I1 H locs hI hH => ?_)
      have hq := hq I1 hI
      refine lv_iinc (v := (v1 + (1 : Int32))) (lv' := [(1, .int (v1 + (1 : Int32))), (0, .ref (b + 111))]) hx hb dX6_goBack_49 hl (k := 1) rfl rfl (by decide) rfl (fun ls hl => ?_)
      refine lv_goto (tgt := 31) hx hb dX6_goBack_52 (by decide) ?_
      exact hK31 (v1 + (1 : Int32)) _ _ _ _ hq hH (lv_sub hl [1, 0] rfl)
set_option maxRecDepth 100000 in
set_option maxHeartbeats 4000000 in
theorem s_X6_goBack_13 {Q : Int32 → wI → Prop} (C0 : wCx p m c s args meth cX6_goBack 2 RX6 (some .int) D cs ad b) : ∀ (t0 : Int32) (I : wI) (H : Heap) (locs : List Loc) (ls : Array Slot), v_X6_goBack_13 Q t0 I → wH D cs b G I s H locs → lv_has ls 2 [(0, .ref (b + 111))] → W p l e rm_X6_goBack s m args below meth c H locs 0 0 (MQ below (va_Qi (Q) (wPo D cs b G) (fun q => b ≤ q)) args s 0 0 (fun q => b ≤ q)) (F0 m 13 ls [.int t0, .ref (b + 111)]) := by
  obtain ⟨hX, hr, hlk, hK, hE⟩ := id C0
  have hx := hX.1
  have hb := hX.2.1
  have hown := hX.2.2.2.1
  have hts := hX.2.2.2.2
  intro t0 I H locs ls hq hH hl
  unfold v_X6_goBack_13 at hq
  refine w_puti hX hK hH ck6 sh111 0 fw6_0 q4_73 dX6_goBack_13 (fun I1 H locs hI hH => ?_)
  have hq := hq I1 hI
  refine lv_aload_n hx hb dX6_goBack_16 rfl (lv_at hl 0 rfl) ?_
  refine w_geti hX hK hH ck6 sh111 0 fi6_0 q4_73 dX6_goBack_17 ?_
  refine lv_if_le (tgt := 25) hx hb dX6_goBack_20 (by decide) (fun hc => ?_) (fun hc => ?_)
  · have hq := hq.1 hc
    refine lv_aload_n hx hb dX6_goBack_25 rfl (lv_at hl 0 rfl) ?_
    obtain ⟨hp, hq⟩ := hq
    refine w_cV hH (w_rV (As := []) (rest := []) hX hK hE hH (c_X6_record   _ hp) ck6 sh111 q4_153 q4_155 qs29 q1_7 q4_156 hd_X6_record ⟨Nat.le_of_ble_eq_true rfl, Nat.le_of_ble_eq_true rfl⟩ ⟨rfl, rfl⟩ rfl hl.1 rfl (Nat.le_of_ble_eq_true rfl) dX6_goBack_26 ⟨Nat.zero_le _, Nat.zero_le _⟩) (fun  I2 H locs hpo hH => ?_)
    have hq := hq  I2 hpo
    refine lv_iconst (v := 0) hx hb dX6_goBack_29 (by decide) ?_
    refine lv_istore_n (lv' := [(1, .int (0 : Int32)), (0, .ref (b + 111))]) hx hb dX6_goBack_30 rfl hl (by decide) rfl (fun ls hl => ?_)
    obtain ⟨f, hq⟩ := hq
    exact s_X6_goBack_31  C0  f (0 : Int32) _ _ _ _ hq hH (lv_sub hl [1, 0] rfl)
  · have hq := hq.2 hc
    refine lv_iconst (v := 0) hx hb dX6_goBack_23 (by decide) ?_
    exact w_eI hX hr hlk hH hq dX6_goBack_24
set_option maxRecDepth 100000 in
set_option maxHeartbeats 4000000 in
theorem c_X6_goBack {l : Launch} {D : va_G} {cs : wC4} {ad : Nat → Nat} {b : Nat} {G : wG}  (I : wI) (hp : pre_X6_goBack  I) : Met l yX6_goBack (ws_ yX6_goBack cX6_goBack 2 (some .int)) rm_X6_goBack (va_Pc [.ref (b + 111)] (wPr D cs ad b G I)) (va_Qi (fun r I' => post_X6_goBack  I r I') (wPo D cs b G) (fun q => b ≤ q)) 0 0 (fun q => b ≤ q) := by
  have hq := vc_X6_goBack  I hp
  refine w_met (by decide) (Nat.le_of_ble_eq_true rfl) ?_
  intro p e s m below meth c hX hr hlk hK hE hH ls hl
  have C0 : wCx p m c s _ meth cX6_goBack 2 RX6 (some .int) D cs ad b := ⟨hX, hr, hlk, hK, hE⟩
  have hX : CallFix p m c cX6_goBack 2 s _ lw_all RX6 := hX
  have hx := hX.1
  have hb := hX.2.1
  have hown := hX.2.2.2.1
  have hts := hX.2.2.2.2
  have hl : lv_has ls 2 [(0, .ref (b + 111))] := hl
  unfold v_X6_goBack at hq
  refine lv_aload_n hx hb dX6_goBack_0 rfl (lv_at hl 0 rfl) ?_
  refine lv_aload_n hx hb dX6_goBack_1 rfl (lv_at hl 0 rfl) ?_
  refine w_geti hX hK hH ck6 sh111 6 fi6_6 q4_79 dX6_goBack_2 ?_
  refine lv_if_eq (tgt := 12) hx hb dX6_goBack_5 (by decide) (fun hc => ?_) (fun hc => ?_)
  · have hq := hq.1 hc
    refine lv_iconst (v := 1) hx hb dX6_goBack_12 (by decide) ?_
    exact s_X6_goBack_13  C0  (1 : Int32) _ _ _ _ hq hH (lv_sub hl [0] rfl)
  · have hq := hq.2 hc
    refine lv_iconst (v := 0) hx hb dX6_goBack_8 (by decide) ?_
    refine lv_goto (tgt := 13) hx hb dX6_goBack_9 (by decide) ?_
    exact s_X6_goBack_13  C0  (0 : Int32) _ _ _ _ hq hH (lv_sub hl [0] rfl)
abbrev rm_X6_putAside : Room := { frames := 0, cells := 0, slots := 0, locals := 0 }
theorem hd_X6_putAside : yX6_putAside.cls = RX6 ∧ yX6_putAside.cls ≠ "java/lang/invoke/MethodHandle" ∧ yX6_putAside.cls ≠ "java/lang/invoke/VarHandle" ∧ (parseMethodDescriptor yX6_putAside.desc).map (fun d => d.parameters.length) = some 0 := by decide +kernel
set_option maxRecDepth 100000 in
set_option maxHeartbeats 4000000 in
theorem s_X6_putAside_2 {Q : wI → Prop} (C0 : wCx p m c s args meth cX6_putAside 2 RX6 none D cs ad b) : ∀ (f : Nat) (v1 : Int32) (I : wI) (H : Heap) (locs : List Loc) (ls : Array Slot), v_X6_putAside_2 Q f v1 I → wH D cs b G I s H locs → lv_has ls 2 [(0, .ref (b + 111)), (1, .int v1)] → W p l e rm_X6_putAside s m args below meth c H locs 0 0 (MQ below (va_Qv (Q) (wPo D cs b G) (fun q => b ≤ q)) args s 0 0 (fun q => b ≤ q)) (F0 m 2 ls []) := by
  obtain ⟨hX, hr, hlk, hK, hE⟩ := id C0
  have hx := hX.1
  have hb := hX.2.1
  have hown := hX.2.2.2.1
  have hts := hX.2.2.2.2
  intro f
  induction f with
  | zero =>
    intro v1 I H locs ls hq
    exact hq.elim
  | succ f hK2 =>
    intro v1 I H locs ls hq hH hl
    have hq : g_X6_putAside_2 Q (v_X6_putAside_2 Q f) v1 I := hq
    unfold g_X6_putAside_2 at hq
    refine lv_iload_n hx hb dX6_putAside_2 rfl (lv_at hl 1 rfl) ?_
    refine lv_bipush (v := 49) hx hb dX6_putAside_3 (by decide) ?_
    refine lv_icmp_ge (tgt := 26) hx hb dX6_putAside_5 (by decide) (fun hc => ?_) (fun hc => ?_)
    · have hq := hq.1 hc
      exact w_eV hX hr hlk hH hq dX6_putAside_26
    · have hq := hq.2 hc
      refine lv_aload_n hx hb dX6_putAside_8 rfl (lv_at hl 0 rfl) ?_
      refine w_getr hX hK hH ck6 sh111 2 2 113 fr6_2 rfl q4_75 dX6_putAside_9 ?_
      refine lv_iload_n hx hb dX6_putAside_12 rfl (lv_at hl 1 rfl) ?_
      refine lv_aload_n hx hb dX6_putAside_13 rfl (lv_at hl 0 rfl) ?_
      refine w_getr hX hK hH ck6 sh111 1 1 112 fr6_1 rfl q4_74 dX6_putAside_14 ?_
      refine lv_iload_n hx hb dX6_putAside_17 rfl (lv_at hl 1 rfl) ?_
      obtain ⟨hc, hq⟩ := hq
      refine w_iald hX hK hH (sf6_1 sh111) hc dX6_putAside_18 ?_
      obtain ⟨hc, hq⟩ := hq
      refine w_iast hX hK hH (sf6_2 sh111) hc dX6_putAside_19 (fun I1 H locs hI hH => ?_)
      have hq := hq I1 hI
      refine lv_iinc (v := (v1 + (1 : Int32))) (lv' := [(1, .int (v1 + (1 : Int32))), (0, .ref (b + 111))]) hx hb dX6_putAside_20 hl (k := 1) rfl rfl (by decide) rfl (fun ls hl => ?_)
      refine lv_goto (tgt := 2) hx hb dX6_putAside_23 (by decide) ?_
      exact hK2 (v1 + (1 : Int32)) _ _ _ _ hq hH (lv_sub hl [1, 0] rfl)
set_option maxRecDepth 100000 in
set_option maxHeartbeats 4000000 in
theorem c_X6_putAside {l : Launch} {D : va_G} {cs : wC4} {ad : Nat → Nat} {b : Nat} {G : wG}  (I : wI) (hp : pre_X6_putAside  I) : Met l yX6_putAside (ws_ yX6_putAside cX6_putAside 2 none) rm_X6_putAside (va_Pc [.ref (b + 111)] (wPr D cs ad b G I)) (va_Qv (fun I' => post_X6_putAside  I I') (wPo D cs b G) (fun q => b ≤ q)) 0 0 (fun q => b ≤ q) := by
  have hq := vc_X6_putAside  I hp
  refine w_met (by decide) (Nat.le_of_ble_eq_true rfl) ?_
  intro p e s m below meth c hX hr hlk hK hE hH ls hl
  have C0 : wCx p m c s _ meth cX6_putAside 2 RX6 none D cs ad b := ⟨hX, hr, hlk, hK, hE⟩
  have hX : CallFix p m c cX6_putAside 2 s _ lw_all RX6 := hX
  have hx := hX.1
  have hb := hX.2.1
  have hown := hX.2.2.2.1
  have hts := hX.2.2.2.2
  have hl : lv_has ls 2 [(0, .ref (b + 111))] := hl
  unfold v_X6_putAside at hq
  refine lv_iconst (v := 0) hx hb dX6_putAside_0 (by decide) ?_
  refine lv_istore_n (lv' := [(1, .int (0 : Int32)), (0, .ref (b + 111))]) hx hb dX6_putAside_1 rfl hl (by decide) rfl (fun ls hl => ?_)
  obtain ⟨f, hq⟩ := hq
  exact s_X6_putAside_2  C0  f (0 : Int32) _ _ _ _ hq hH (lv_sub hl [1, 0] rfl)
abbrev rm_X6_putBack : Room := { frames := 0, cells := 0, slots := 0, locals := 0 }
theorem hd_X6_putBack : yX6_putBack.cls = RX6 ∧ yX6_putBack.cls ≠ "java/lang/invoke/MethodHandle" ∧ yX6_putBack.cls ≠ "java/lang/invoke/VarHandle" ∧ (parseMethodDescriptor yX6_putBack.desc).map (fun d => d.parameters.length) = some 0 := by decide +kernel
set_option maxRecDepth 100000 in
set_option maxHeartbeats 4000000 in
theorem s_X6_putBack_2 {Q : wI → Prop} (C0 : wCx p m c s args meth cX6_putBack 2 RX6 none D cs ad b) : ∀ (f : Nat) (v1 : Int32) (I : wI) (H : Heap) (locs : List Loc) (ls : Array Slot), v_X6_putBack_2 Q f v1 I → wH D cs b G I s H locs → lv_has ls 2 [(0, .ref (b + 111)), (1, .int v1)] → W p l e rm_X6_putBack s m args below meth c H locs 0 0 (MQ below (va_Qv (Q) (wPo D cs b G) (fun q => b ≤ q)) args s 0 0 (fun q => b ≤ q)) (F0 m 2 ls []) := by
  obtain ⟨hX, hr, hlk, hK, hE⟩ := id C0
  have hx := hX.1
  have hb := hX.2.1
  have hown := hX.2.2.2.1
  have hts := hX.2.2.2.2
  intro f
  induction f with
  | zero =>
    intro v1 I H locs ls hq
    exact hq.elim
  | succ f hK2 =>
    intro v1 I H locs ls hq hH hl
    have hq : g_X6_putBack_2 Q (v_X6_putBack_2 Q f) v1 I := hq
    unfold g_X6_putBack_2 at hq
    refine lv_iload_n hx hb dX6_putBack_2 rfl (lv_at hl 1 rfl) ?_
    refine lv_bipush (v := 49) hx hb dX6_putBack_3 (by decide) ?_
    refine lv_icmp_ge (tgt := 26) hx hb dX6_putBack_5 (by decide) (fun hc => ?_) (fun hc => ?_)
    · have hq := hq.1 hc
      exact w_eV hX hr hlk hH hq dX6_putBack_26
    · have hq := hq.2 hc
      refine lv_aload_n hx hb dX6_putBack_8 rfl (lv_at hl 0 rfl) ?_
      refine w_getr hX hK hH ck6 sh111 1 1 112 fr6_1 rfl q4_74 dX6_putBack_9 ?_
      refine lv_iload_n hx hb dX6_putBack_12 rfl (lv_at hl 1 rfl) ?_
      refine lv_aload_n hx hb dX6_putBack_13 rfl (lv_at hl 0 rfl) ?_
      refine w_getr hX hK hH ck6 sh111 2 2 113 fr6_2 rfl q4_75 dX6_putBack_14 ?_
      refine lv_iload_n hx hb dX6_putBack_17 rfl (lv_at hl 1 rfl) ?_
      obtain ⟨hc, hq⟩ := hq
      refine w_iald hX hK hH (sf6_2 sh111) hc dX6_putBack_18 ?_
      obtain ⟨hc, hq⟩ := hq
      refine w_iast hX hK hH (sf6_1 sh111) hc dX6_putBack_19 (fun I1 H locs hI hH => ?_)
      have hq := hq I1 hI
      refine lv_iinc (v := (v1 + (1 : Int32))) (lv' := [(1, .int (v1 + (1 : Int32))), (0, .ref (b + 111))]) hx hb dX6_putBack_20 hl (k := 1) rfl rfl (by decide) rfl (fun ls hl => ?_)
      refine lv_goto (tgt := 2) hx hb dX6_putBack_23 (by decide) ?_
      exact hK2 (v1 + (1 : Int32)) _ _ _ _ hq hH (lv_sub hl [1, 0] rfl)
set_option maxRecDepth 100000 in
set_option maxHeartbeats 4000000 in
theorem c_X6_putBack {l : Launch} {D : va_G} {cs : wC4} {ad : Nat → Nat} {b : Nat} {G : wG}  (I : wI) (hp : pre_X6_putBack  I) : Met l yX6_putBack (ws_ yX6_putBack cX6_putBack 2 none) rm_X6_putBack (va_Pc [.ref (b + 111)] (wPr D cs ad b G I)) (va_Qv (fun I' => post_X6_putBack  I I') (wPo D cs b G) (fun q => b ≤ q)) 0 0 (fun q => b ≤ q) := by
  have hq := vc_X6_putBack  I hp
  refine w_met (by decide) (Nat.le_of_ble_eq_true rfl) ?_
  intro p e s m below meth c hX hr hlk hK hE hH ls hl
  have C0 : wCx p m c s _ meth cX6_putBack 2 RX6 none D cs ad b := ⟨hX, hr, hlk, hK, hE⟩
  have hX : CallFix p m c cX6_putBack 2 s _ lw_all RX6 := hX
  have hx := hX.1
  have hb := hX.2.1
  have hown := hX.2.2.2.1
  have hts := hX.2.2.2.2
  have hl : lv_has ls 2 [(0, .ref (b + 111))] := hl
  unfold v_X6_putBack at hq
  refine lv_iconst (v := 0) hx hb dX6_putBack_0 (by decide) ?_
  refine lv_istore_n (lv' := [(1, .int (0 : Int32)), (0, .ref (b + 111))]) hx hb dX6_putBack_1 rfl hl (by decide) rfl (fun ls hl => ?_)
  obtain ⟨f, hq⟩ := hq
  exact s_X6_putBack_2  C0  f (0 : Int32) _ _ _ _ hq hH (lv_sub hl [1, 0] rfl)
abbrev rm_X6_toFirst : Room := { frames := 0, cells := 0, slots := 0, locals := 0 }
theorem hd_X6_toFirst : yX6_toFirst.cls = RX6 ∧ yX6_toFirst.cls ≠ "java/lang/invoke/MethodHandle" ∧ yX6_toFirst.cls ≠ "java/lang/invoke/VarHandle" ∧ (parseMethodDescriptor yX6_toFirst.desc).map (fun d => d.parameters.length) = some 0 := by decide +kernel
set_option maxRecDepth 100000 in
set_option maxHeartbeats 4000000 in
theorem s_X6_toFirst_2 {Q : wI → Prop} (C0 : wCx p m c s args meth cX6_toFirst 2 RX6 none D cs ad b) : ∀ (f : Nat) (v1 : Int32) (I : wI) (H : Heap) (locs : List Loc) (ls : Array Slot), v_X6_toFirst_2 Q f v1 I → wH D cs b G I s H locs → lv_has ls 2 [(0, .ref (b + 111)), (1, .int v1)] → W p l e rm_X6_toFirst s m args below meth c H locs 0 0 (MQ below (va_Qv (Q) (wPo D cs b G) (fun q => b ≤ q)) args s 0 0 (fun q => b ≤ q)) (F0 m 2 ls []) := by
  obtain ⟨hX, hr, hlk, hK, hE⟩ := id C0
  have hx := hX.1
  have hb := hX.2.1
  have hown := hX.2.2.2.1
  have hts := hX.2.2.2.2
  intro f
  induction f with
  | zero =>
    intro v1 I H locs ls hq
    exact hq.elim
  | succ f hK2 =>
    intro v1 I H locs ls hq hH hl
    have hq : g_X6_toFirst_2 Q (v_X6_toFirst_2 Q f) v1 I := hq
    unfold g_X6_toFirst_2 at hq
    refine lv_iload_n hx hb dX6_toFirst_2 rfl (lv_at hl 1 rfl) ?_
    refine lv_bipush (v := 6) hx hb dX6_toFirst_3 (by decide) ?_
    refine lv_icmp_ge (tgt := 33) hx hb dX6_toFirst_5 (by decide) (fun hc => ?_) (fun hc => ?_)
    · have hq := hq.1 hc
      exact w_eV hX hr hlk hH hq dX6_toFirst_33
    · have hq := hq.2 hc
      refine lv_aload_n hx hb dX6_toFirst_8 rfl (lv_at hl 0 rfl) ?_
      refine w_getr hX hK hH ck6 sh111 1 1 112 fr6_1 rfl q4_74 dX6_toFirst_9 ?_
      refine lv_iconst (v := 0) hx hb dX6_toFirst_12 (by decide) ?_
      refine lv_iload_n hx hb dX6_toFirst_13 rfl (lv_at hl 1 rfl) ?_
      refine lv_iadd hx hb dX6_toFirst_14 ?_
      refine lv_iload_n hx hb dX6_toFirst_15 rfl (lv_at hl 1 rfl) ?_
      obtain ⟨hc, hq⟩ := hq
      refine w_iast hX hK hH (sf6_1 sh111) hc dX6_toFirst_16 (fun I1 H locs hI hH => ?_)
      have hq := hq I1 hI
      refine lv_aload_n hx hb dX6_toFirst_17 rfl (lv_at hl 0 rfl) ?_
      refine w_getr hX hK hH ck6 sh111 1 1 112 fr6_1 rfl q4_74 dX6_toFirst_18 ?_
      refine lv_bipush (v := 6) hx hb dX6_toFirst_21 (by decide) ?_
      refine lv_iload_n hx hb dX6_toFirst_23 rfl (lv_at hl 1 rfl) ?_
      refine lv_iadd hx hb dX6_toFirst_24 ?_
      refine lv_iconst (v := 0) hx hb dX6_toFirst_25 (by decide) ?_
      obtain ⟨hc, hq⟩ := hq
      refine w_iast hX hK hH (sf6_1 sh111) hc dX6_toFirst_26 (fun I2 H locs hI hH => ?_)
      have hq := hq I2 hI
      refine lv_iinc (v := (v1 + (1 : Int32))) (lv' := [(1, .int (v1 + (1 : Int32))), (0, .ref (b + 111))]) hx hb dX6_toFirst_27 hl (k := 1) rfl rfl (by decide) rfl (fun ls hl => ?_)
      refine lv_goto (tgt := 2) hx hb dX6_toFirst_30 (by decide) ?_
      exact hK2 (v1 + (1 : Int32)) _ _ _ _ hq hH (lv_sub hl [1, 0] rfl)
set_option maxRecDepth 100000 in
set_option maxHeartbeats 4000000 in
theorem c_X6_toFirst {l : Launch} {D : va_G} {cs : wC4} {ad : Nat → Nat} {b : Nat} {G : wG}  (I : wI) (hp : pre_X6_toFirst  I) : Met l yX6_toFirst (ws_ yX6_toFirst cX6_toFirst 2 none) rm_X6_toFirst (va_Pc [.ref (b + 111)] (wPr D cs ad b G I)) (va_Qv (fun I' => post_X6_toFirst  I I') (wPo D cs b G) (fun q => b ≤ q)) 0 0 (fun q => b ≤ q) := by
  have hq := vc_X6_toFirst  I hp
  refine w_met (by decide) (Nat.le_of_ble_eq_true rfl) ?_
  intro p e s m below meth c hX hr hlk hK hE hH ls hl
  have C0 : wCx p m c s _ meth cX6_toFirst 2 RX6 none D cs ad b := ⟨hX, hr, hlk, hK, hE⟩
  have hX : CallFix p m c cX6_toFirst 2 s _ lw_all RX6 := hX
  have hx := hX.1
  have hb := hX.2.1
  have hown := hX.2.2.2.1
  have hts := hX.2.2.2.2
  have hl : lv_has ls 2 [(0, .ref (b + 111))] := hl
  unfold v_X6_toFirst at hq
  refine lv_iconst (v := 0) hx hb dX6_toFirst_0 (by decide) ?_
  refine lv_istore_n (lv' := [(1, .int (0 : Int32)), (0, .ref (b + 111))]) hx hb dX6_toFirst_1 rfl hl (by decide) rfl (fun ls hl => ?_)
  obtain ⟨f, hq⟩ := hq
  exact s_X6_toFirst_2  C0  f (0 : Int32) _ _ _ _ hq hH (lv_sub hl [1, 0] rfl)
abbrev rm_X6_next : Room := { frames := 1, cells := 0, slots := 0, locals := 22 }
theorem hd_X6_next : yX6_next.cls = RX6 ∧ yX6_next.cls ≠ "java/lang/invoke/MethodHandle" ∧ yX6_next.cls ≠ "java/lang/invoke/VarHandle" ∧ (parseMethodDescriptor yX6_next.desc).map (fun d => d.parameters.length) = some 2 := by decide +kernel
set_option maxRecDepth 100000 in
set_option maxHeartbeats 4000000 in
theorem s_X6_next_7 {x1 : Int32} {x2 : Int32} {I : wI} {Q : Int32 → Prop} (C0 : wCx p m c s args meth cX6_next 4 RX6 (some .int) D cs ad b) : ∀ (f : Nat) (v3 : Int32) (H : Heap) (locs : List Loc) (ls : Array Slot), v_X6_next_7 x1 x2 I Q f v3 → wH D cs b G I s H locs → lv_has ls 4 [(0, .ref (b + 111)), (1, .int x1), (3, .int v3)] → W p l e rm_X6_next s m args below meth c H locs 0 0 (MQ below (va_Qi (fun r I' => I' = I ∧ Q r) (wPo D cs b G) (fun q => b ≤ q)) args s 0 0 (fun q => b ≤ q)) (F0 m 7 ls []) := by
  obtain ⟨hX, hr, hlk, hK, hE⟩ := id C0
  have hx := hX.1
  have hb := hX.2.1
  have hown := hX.2.2.2.1
  have hts := hX.2.2.2.2
  intro f
  induction f with
  | zero =>
    intro v3 H locs ls hq
    exact hq.elim
  | succ f hK7 =>
    intro v3 H locs ls hq hH hl
    have hq : g_X6_next_7 x1 x2 I Q (v_X6_next_7 x1 x2 I Q f) v3 := hq
    unfold g_X6_next_7 at hq
    refine lv_aload_n hx hb dX6_next_7 rfl (lv_at hl 0 rfl) ?_
    refine lv_iload_n hx hb dX6_next_8 rfl (lv_at hl 1 rfl) ?_
    refine lv_iload_n hx hb dX6_next_9 rfl (lv_at hl 2 rfl) ?_
    obtain ⟨hp, hq⟩ := hq
    refine w_cIp hH (w_rV (As := [.int x1, .int v3]) (rest := []) hX hK hE hH (c_X6_has  _ _ _ hp) ck6 sh111 q4_175 q4_177 qs32 q1_7 q4_178 hd_X6_has ⟨Nat.le_of_ble_eq_true rfl, Nat.le_of_ble_eq_true rfl⟩ ⟨rfl, rfl⟩ rfl hl.1 rfl (Nat.le_of_ble_eq_true rfl) dX6_next_10 ⟨Nat.zero_le _, Nat.zero_le _⟩) (fun r1  H locs hpo hH => ?_)
    have hq := hq r1  hpo
    refine lv_if_ne (tgt := 26) hx hb dX6_next_13 (by decide) (fun hc => ?_) (fun hc => ?_)
    · have hq := hq.1 hc
      refine lv_iload_n hx hb dX6_next_26 rfl (lv_at hl 2 rfl) ?_
      exact w_eI hX hr hlk hH ⟨rfl, hq⟩ dX6_next_27
    · have hq := hq.2 hc
      refine lv_iload_n hx hb dX6_next_16 rfl (lv_at hl 2 rfl) ?_
      refine lv_iconst (v := 1) hx hb dX6_next_17 (by decide) ?_
      refine lv_iadd hx hb dX6_next_18 ?_
      refine lv_bipush (v := 6) hx hb dX6_next_19 (by decide) ?_
      refine lv_irem hx hb dX6_next_21 (by decide) ?_
      refine lv_istore_n (lv' := [(3, .int ((v3 + (1 : Int32)) - (v3 + (1 : Int32)) / (6 : Int32) * (6 : Int32))), (0, .ref (b + 111)), (1, .int x1)]) hx hb dX6_next_22 rfl hl (by decide) rfl (fun ls hl => ?_)
      refine lv_goto (tgt := 7) hx hb dX6_next_23 (by decide) ?_
      exact hK7 ((v3 + (1 : Int32)) - (v3 + (1 : Int32)) / (6 : Int32) * (6 : Int32)) _ _ _ hq hH (lv_sub hl [1, 2, 0] rfl)
set_option maxRecDepth 100000 in
set_option maxHeartbeats 4000000 in
theorem c_X6_next {l : Launch} {D : va_G} {cs : wC4} {ad : Nat → Nat} {b : Nat} {G : wG} (x1 : Int32) (x2 : Int32) (I : wI) (hp : pre_X6_next x1 x2 I) : Met l yX6_next (ws_ yX6_next cX6_next 4 (some .int)) rm_X6_next (va_Pc [.ref (b + 111), .int x1, .int x2] (wPr D cs ad b G I)) (va_Qi (fun r I' => I' = I ∧ post_X6_next x1 x2 I r) (wPo D cs b G) (fun q => b ≤ q)) 0 0 (fun q => b ≤ q) := by
  have hq := vc_X6_next x1 x2 I hp
  refine w_met (by decide) (Nat.le_of_ble_eq_true rfl) ?_
  intro p e s m below meth c hX hr hlk hK hE hH ls hl
  have C0 : wCx p m c s _ meth cX6_next 4 RX6 (some .int) D cs ad b := ⟨hX, hr, hlk, hK, hE⟩
  have hX : CallFix p m c cX6_next 4 s _ lw_all RX6 := hX
  have hx := hX.1
  have hb := hX.2.1
  have hown := hX.2.2.2.1
  have hts := hX.2.2.2.2
  have hl : lv_has ls 4 [(0, .ref (b + 111)), (1, .int x1), (2, .int x2)] := hl
  unfold v_X6_next at hq
  refine lv_iload_n hx hb dX6_next_0 rfl (lv_at hl 2 rfl) ?_
  refine lv_iconst (v := 1) hx hb dX6_next_1 (by decide) ?_
  refine lv_iadd hx hb dX6_next_2 ?_
  refine lv_bipush (v := 6) hx hb dX6_next_3 (by decide) ?_
  refine lv_irem hx hb dX6_next_5 (by decide) ?_
  refine lv_istore_n (lv' := [(3, .int ((x2 + (1 : Int32)) - (x2 + (1 : Int32)) / (6 : Int32) * (6 : Int32))), (0, .ref (b + 111)), (1, .int x1), (2, .int x2)]) hx hb dX6_next_6 rfl hl (by decide) rfl (fun ls hl => ?_)
  obtain ⟨f, hq⟩ := hq
  exact s_X6_next_7  C0  f ((x2 + (1 : Int32)) - (x2 + (1 : Int32)) / (6 : Int32) * (6 : Int32)) _ _ _ hq hH (lv_sub hl [1, 2, 0] rfl)
abbrev rm_X6_doTurn : Room := { frames := 2, cells := 0, slots := 0, locals := 45 }
theorem hd_X6_doTurn : yX6_doTurn.cls = RX6 ∧ yX6_doTurn.cls ≠ "java/lang/invoke/MethodHandle" ∧ yX6_doTurn.cls ≠ "java/lang/invoke/VarHandle" ∧ (parseMethodDescriptor yX6_doTurn.desc).map (fun d => d.parameters.length) = some 1 := by decide +kernel
set_option maxRecDepth 100000 in
set_option maxHeartbeats 4000000 in
theorem s_X6_doTurn_154 {x1 : Int32} {Q : wI → Prop} {K32 : Int32 → Int32 → wI → Prop} (C0 : wCx p m c s args meth cX6_doTurn 8 RX6 none D cs ad b) (hK32 : ∀ (v2 : Int32) (v3 : Int32) (I : wI) (H : Heap) (locs : List Loc) (ls : Array Slot), K32 v2 v3 I → wH D cs b G I s H locs → lv_has ls 8 [(0, .ref (b + 111)), (1, .int x1), (2, .int v2), (3, .int v3)] → W p l e rm_X6_doTurn s m args below meth c H locs 0 0 (MQ below (va_Qv (Q) (wPo D cs b G) (fun q => b ≤ q)) args s 0 0 (fun q => b ≤ q)) (F0 m 32 ls [])) : ∀ (v2 : Int32) (v3 : Int32) (I : wI) (H : Heap) (locs : List Loc) (ls : Array Slot), v_X6_doTurn_154 x1 Q K32 v2 v3 I → wH D cs b G I s H locs → lv_has ls 8 [(0, .ref (b + 111)), (1, .int x1), (2, .int v2), (3, .int v3)] → W p l e rm_X6_doTurn s m args below meth c H locs 0 0 (MQ below (va_Qv (Q) (wPo D cs b G) (fun q => b ≤ q)) args s 0 0 (fun q => b ≤ q)) (F0 m 154 ls []) := by
  obtain ⟨hX, hr, hlk, hK, hE⟩ := id C0
  have hx := hX.1
  have hb := hX.2.1
  have hown := hX.2.2.2.1
  have hts := hX.2.2.2.2
  intro v2 v3 I H locs ls hq hH hl
  unfold v_X6_doTurn_154 at hq
  refine lv_iinc (v := (v3 + (1 : Int32))) (lv' := [(3, .int (v3 + (1 : Int32))), (0, .ref (b + 111)), (1, .int x1), (2, .int v2)]) hx hb dX6_doTurn_154 hl (k := 3) rfl rfl (by decide) rfl (fun ls hl => ?_)
  refine lv_goto (tgt := 32) hx hb dX6_doTurn_157 (by decide) ?_
  exact hK32 v2 (v3 + (1 : Int32)) _ _ _ _ hq hH (lv_sub hl [1, 2, 3, 0] rfl)
set_option maxRecDepth 100000 in
set_option maxHeartbeats 4000000 in
theorem s_X6_doTurn_109 {x1 : Int32} {Q : wI → Prop} {K32 : Int32 → Int32 → wI → Prop} (C0 : wCx p m c s args meth cX6_doTurn 8 RX6 none D cs ad b) (hK32 : ∀ (v2 : Int32) (v3 : Int32) (I : wI) (H : Heap) (locs : List Loc) (ls : Array Slot), K32 v2 v3 I → wH D cs b G I s H locs → lv_has ls 8 [(0, .ref (b + 111)), (1, .int x1), (2, .int v2), (3, .int v3)] → W p l e rm_X6_doTurn s m args below meth c H locs 0 0 (MQ below (va_Qv (Q) (wPo D cs b G) (fun q => b ≤ q)) args s 0 0 (fun q => b ≤ q)) (F0 m 32 ls [])) : ∀ (v2 : Int32) (v3 : Int32) (v5 : Int32) (v6 : Int32) (t0 : Int32) (I : wI) (H : Heap) (locs : List Loc) (ls : Array Slot), v_X6_doTurn_109 x1 Q K32 v2 v3 v5 v6 t0 I → wH D cs b G I s H locs → lv_has ls 8 [(0, .ref (b + 111)), (1, .int x1), (2, .int v2), (3, .int v3), (5, .int v5), (6, .int v6)] → W p l e rm_X6_doTurn s m args below meth c H locs 0 0 (MQ below (va_Qv (Q) (wPo D cs b G) (fun q => b ≤ q)) args s 0 0 (fun q => b ≤ q)) (F0 m 109 ls [.int t0]) := by
  obtain ⟨hX, hr, hlk, hK, hE⟩ := id C0
  have hx := hX.1
  have hb := hX.2.1
  have hown := hX.2.2.2.1
  have hts := hX.2.2.2.2
  intro v2 v3 v5 v6 t0 I H locs ls hq hH hl
  unfold v_X6_doTurn_109 at hq
  refine lv_istore (lv' := [(7, .int t0), (0, .ref (b + 111)), (1, .int x1), (2, .int v2), (3, .int v3), (5, .int v5), (6, .int v6)]) hx hb dX6_doTurn_109 hl (by decide) rfl (fun ls hl => ?_)
  refine lv_aload_n hx hb dX6_doTurn_111 rfl (lv_at hl 1 rfl) ?_
  refine w_getr hX hK hH ck6 sh111 1 1 112 fr6_1 rfl q4_74 dX6_doTurn_112 ?_
  refine lv_iconst (v := 0) hx hb dX6_doTurn_115 (by decide) ?_
  refine lv_iload hx hb dX6_doTurn_116 (lv_at hl 6 rfl) ?_
  refine lv_iadd hx hb dX6_doTurn_118 ?_
  refine lv_aload_n hx hb dX6_doTurn_119 rfl (lv_at hl 1 rfl) ?_
  refine w_getr hX hK hH ck6 sh111 9 6 117 fr6_9 rfl q4_82 dX6_doTurn_120 ?_
  refine lv_iconst (v := 0) hx hb dX6_doTurn_123 (by decide) ?_
  refine lv_iload hx hb dX6_doTurn_124 (lv_at hl 5 rfl) ?_
  refine lv_iadd hx hb dX6_doTurn_126 ?_
  obtain ⟨hc, hq⟩ := hq
  refine w_iald hX hK hH (sf6_9 sh111) hc dX6_doTurn_127 ?_
  obtain ⟨hc, hq⟩ := hq
  refine w_iast hX hK hH (sf6_1 sh111) hc dX6_doTurn_128 (fun I1 H locs hI hH => ?_)
  have hq := hq I1 hI
  refine lv_aload_n hx hb dX6_doTurn_129 rfl (lv_at hl 1 rfl) ?_
  refine w_getr hX hK hH ck6 sh111 1 1 112 fr6_1 rfl q4_74 dX6_doTurn_130 ?_
  refine lv_bipush (v := 6) hx hb dX6_doTurn_133 (by decide) ?_
  refine lv_iload hx hb dX6_doTurn_135 (lv_at hl 6 rfl) ?_
  refine lv_iadd hx hb dX6_doTurn_137 ?_
  refine lv_aload_n hx hb dX6_doTurn_138 rfl (lv_at hl 1 rfl) ?_
  refine w_getr hX hK hH ck6 sh111 9 6 117 fr6_9 rfl q4_82 dX6_doTurn_139 ?_
  refine lv_bipush (v := 6) hx hb dX6_doTurn_142 (by decide) ?_
  refine lv_iload hx hb dX6_doTurn_144 (lv_at hl 5 rfl) ?_
  refine lv_iadd hx hb dX6_doTurn_146 ?_
  obtain ⟨hc, hq⟩ := hq
  refine w_iald hX hK hH (sf6_9 sh111) hc dX6_doTurn_147 ?_
  refine lv_iload hx hb dX6_doTurn_148 (lv_at hl 0 rfl) ?_
  refine lv_iadd hx hb dX6_doTurn_150 ?_
  refine lv_iconst (v := 5) hx hb dX6_doTurn_151 (by decide) ?_
  refine lv_irem hx hb dX6_doTurn_152 (by decide) ?_
  obtain ⟨hc, hq⟩ := hq
  refine w_iast hX hK hH (sf6_1 sh111) hc dX6_doTurn_153 (fun I2 H locs hI hH => ?_)
  have hq := hq I2 hI
  exact s_X6_doTurn_154  C0 hK32 v2 v3 _ _ _ _ hq hH (lv_sub hl [1, 2, 3, 4] rfl)
set_option maxRecDepth 100000 in
set_option maxHeartbeats 4000000 in
theorem s_X6_doTurn_79 {x1 : Int32} {Q : wI → Prop} {K32 : Int32 → Int32 → wI → Prop} (C0 : wCx p m c s args meth cX6_doTurn 8 RX6 none D cs ad b) (hK32 : ∀ (v2 : Int32) (v3 : Int32) (I : wI) (H : Heap) (locs : List Loc) (ls : Array Slot), K32 v2 v3 I → wH D cs b G I s H locs → lv_has ls 8 [(0, .ref (b + 111)), (1, .int x1), (2, .int v2), (3, .int v3)] → W p l e rm_X6_doTurn s m args below meth c H locs 0 0 (MQ below (va_Qv (Q) (wPo D cs b G) (fun q => b ≤ q)) args s 0 0 (fun q => b ≤ q)) (F0 m 32 ls [])) : ∀ (v2 : Int32) (v3 : Int32) (v5 : Int32) (t0 : Int32) (I : wI) (H : Heap) (locs : List Loc) (ls : Array Slot), v_X6_doTurn_79 x1 Q K32 v2 v3 v5 t0 I → wH D cs b G I s H locs → lv_has ls 8 [(0, .ref (b + 111)), (1, .int x1), (2, .int v2), (3, .int v3), (5, .int v5)] → W p l e rm_X6_doTurn s m args below meth c H locs 0 0 (MQ below (va_Qv (Q) (wPo D cs b G) (fun q => b ≤ q)) args s 0 0 (fun q => b ≤ q)) (F0 m 79 ls [.int t0]) := by
  obtain ⟨hX, hr, hlk, hK, hE⟩ := id C0
  have hx := hX.1
  have hb := hX.2.1
  have hown := hX.2.2.2.1
  have hts := hX.2.2.2.2
  intro v2 v3 v5 t0 I H locs ls hq hH hl
  unfold v_X6_doTurn_79 at hq
  refine lv_istore (lv' := [(6, .int t0), (0, .ref (b + 111)), (1, .int x1), (2, .int v2), (3, .int v3), (5, .int v5)]) hx hb dX6_doTurn_79 hl (by decide) rfl (fun ls hl => ?_)
  refine lv_iload_n hx hb dX6_doTurn_81 rfl (lv_at hl 2 rfl) ?_
  refine lv_iconst (v := 5) hx hb dX6_doTurn_82 (by decide) ?_
  refine lv_icmp_ge (tgt := 98) hx hb dX6_doTurn_83 (by decide) (fun hc => ?_) (fun hc => ?_)
  · have hq := hq.1 hc
    refine lv_iconst (v := 5) hx hb dX6_doTurn_98 (by decide) ?_
    refine lv_aload_n hx hb dX6_doTurn_99 rfl (lv_at hl 1 rfl) ?_
    refine w_getr hX hK hH ck6 sh111 1 1 112 fr6_1 rfl q4_74 dX6_doTurn_100 ?_
    refine lv_bipush (v := 23) hx hb dX6_doTurn_103 (by decide) ?_
    refine lv_iload_n hx hb dX6_doTurn_105 rfl (lv_at hl 3 rfl) ?_
    refine lv_iadd hx hb dX6_doTurn_106 ?_
    obtain ⟨hc, hq⟩ := hq
    refine w_iald hX hK hH (sf6_1 sh111) hc dX6_doTurn_107 ?_
    refine lv_isub hx hb dX6_doTurn_108 ?_
    exact s_X6_doTurn_109  C0 hK32 v2 v3 v5 t0 ((5 : Int32) - (I 112 (((23 : Int32) + v2)).toNatClampNeg)) _ _ _ _ hq hH (lv_sub hl [1, 2, 3, 4, 5, 0] rfl)
  · have hq := hq.2 hc
    refine lv_aload_n hx hb dX6_doTurn_86 rfl (lv_at hl 1 rfl) ?_
    refine w_getr hX hK hH ck6 sh111 1 1 112 fr6_1 rfl q4_74 dX6_doTurn_87 ?_
    refine lv_bipush (v := 23) hx hb dX6_doTurn_90 (by decide) ?_
    refine lv_iload_n hx hb dX6_doTurn_92 rfl (lv_at hl 3 rfl) ?_
    refine lv_iadd hx hb dX6_doTurn_93 ?_
    obtain ⟨hc, hq⟩ := hq
    refine w_iald hX hK hH (sf6_1 sh111) hc dX6_doTurn_94 ?_
    refine lv_goto (tgt := 109) hx hb dX6_doTurn_95 (by decide) ?_
    exact s_X6_doTurn_109  C0 hK32 v2 v3 v5 t0 (I 112 (((23 : Int32) + v2)).toNatClampNeg) _ _ _ _ hq hH (lv_sub hl [1, 2, 3, 4, 5, 0] rfl)
set_option maxRecDepth 100000 in
set_option maxHeartbeats 4000000 in
theorem s_X6_doTurn_66 {x1 : Int32} {Q : wI → Prop} {K32 : Int32 → Int32 → wI → Prop} (C0 : wCx p m c s args meth cX6_doTurn 8 RX6 none D cs ad b) (hK32 : ∀ (v2 : Int32) (v3 : Int32) (I : wI) (H : Heap) (locs : List Loc) (ls : Array Slot), K32 v2 v3 I → wH D cs b G I s H locs → lv_has ls 8 [(0, .ref (b + 111)), (1, .int x1), (2, .int v2), (3, .int v3)] → W p l e rm_X6_doTurn s m args below meth c H locs 0 0 (MQ below (va_Qv (Q) (wPo D cs b G) (fun q => b ≤ q)) args s 0 0 (fun q => b ≤ q)) (F0 m 32 ls [])) : ∀ (v2 : Int32) (v3 : Int32) (v4 : Int32) (t0 : Int32) (I : wI) (H : Heap) (locs : List Loc) (ls : Array Slot), v_X6_doTurn_66 x1 Q K32 v2 v3 v4 t0 I → wH D cs b G I s H locs → lv_has ls 8 [(0, .ref (b + 111)), (1, .int x1), (2, .int v2), (3, .int v3), (4, .int v4)] → W p l e rm_X6_doTurn s m args below meth c H locs 0 0 (MQ below (va_Qv (Q) (wPo D cs b G) (fun q => b ≤ q)) args s 0 0 (fun q => b ≤ q)) (F0 m 66 ls [.int t0]) := by
  obtain ⟨hX, hr, hlk, hK, hE⟩ := id C0
  have hx := hX.1
  have hb := hX.2.1
  have hown := hX.2.2.2.1
  have hts := hX.2.2.2.2
  intro v2 v3 v4 t0 I H locs ls hq hH hl
  unfold v_X6_doTurn_66 at hq
  refine lv_istore (lv' := [(5, .int t0), (0, .ref (b + 111)), (1, .int x1), (2, .int v2), (3, .int v3), (4, .int v4)]) hx hb dX6_doTurn_66 hl (by decide) rfl (fun ls hl => ?_)
  refine lv_iload_n hx hb dX6_doTurn_68 rfl (lv_at hl 2 rfl) ?_
  refine lv_iconst (v := 5) hx hb dX6_doTurn_69 (by decide) ?_
  refine lv_icmp_ge (tgt := 78) hx hb dX6_doTurn_70 (by decide) (fun hc => ?_) (fun hc => ?_)
  · have hq := hq.1 hc
    refine lv_iload_n hx hb dX6_doTurn_78 rfl (lv_at hl 4 rfl) ?_
    exact s_X6_doTurn_79  C0 hK32 v2 v3 t0 v3 _ _ _ _ hq hH (lv_sub hl [1, 2, 3, 4, 0] rfl)
  · have hq := hq.2 hc
    refine lv_iload hx hb dX6_doTurn_73 (lv_at hl 5 rfl) ?_
    refine lv_goto (tgt := 79) hx hb dX6_doTurn_75 (by decide) ?_
    exact s_X6_doTurn_79  C0 hK32 v2 v3 t0 v4 _ _ _ _ hq hH (lv_sub hl [1, 2, 3, 4, 0] rfl)
set_option maxRecDepth 100000 in
set_option maxHeartbeats 4000000 in
theorem s_X6_doTurn_32 {x1 : Int32} {Q : wI → Prop} (C0 : wCx p m c s args meth cX6_doTurn 8 RX6 none D cs ad b) : ∀ (f : Nat) (v2 : Int32) (v3 : Int32) (I : wI) (H : Heap) (locs : List Loc) (ls : Array Slot), v_X6_doTurn_32 x1 Q f v2 v3 I → wH D cs b G I s H locs → lv_has ls 8 [(0, .ref (b + 111)), (1, .int x1), (2, .int v2), (3, .int v3)] → W p l e rm_X6_doTurn s m args below meth c H locs 0 0 (MQ below (va_Qv (Q) (wPo D cs b G) (fun q => b ≤ q)) args s 0 0 (fun q => b ≤ q)) (F0 m 32 ls []) := by
  obtain ⟨hX, hr, hlk, hK, hE⟩ := id C0
  have hx := hX.1
  have hb := hX.2.1
  have hown := hX.2.2.2.1
  have hts := hX.2.2.2.2
  intro f
  induction f with
  | zero =>
    intro v2 v3 I H locs ls hq
    exact hq.elim
  | succ f hK32 =>
    intro v2 v3 I H locs ls hq hH hl
    have hq : g_X6_doTurn_32 x1 Q (v_X6_doTurn_32 x1 Q f) v2 v3 I := hq
    unfold g_X6_doTurn_32 at hq
    refine lv_iload_n hx hb dX6_doTurn_32 rfl (lv_at hl 3 rfl) ?_
    refine lv_bipush (v := 6) hx hb dX6_doTurn_33 (by decide) ?_
    refine lv_icmp_ge (tgt := 160) hx hb dX6_doTurn_35 (by decide) (fun hc => ?_) (fun hc => ?_)
    · have hq := hq.1 hc
      exact w_eV hX hr hlk hH hq dX6_doTurn_160
    · have hq := hq.2 hc
      refine lv_aload_n hx hb dX6_doTurn_38 rfl (lv_at hl 0 rfl) ?_
      refine lv_iload_n hx hb dX6_doTurn_39 rfl (lv_at hl 2 rfl) ?_
      refine lv_iload_n hx hb dX6_doTurn_40 rfl (lv_at hl 3 rfl) ?_
      obtain ⟨hp, hq⟩ := hq
      refine w_cIp hH (w_rV (As := [.int v2, .int v3]) (rest := []) hX hK hE hH (c_X6_has  _ _ _ hp) ck6 sh111 q4_175 q4_177 qs32 q1_7 q4_178 hd_X6_has ⟨Nat.le_of_ble_eq_true rfl, Nat.le_of_ble_eq_true rfl⟩ ⟨rfl, rfl⟩ rfl hl.1 rfl (Nat.le_of_ble_eq_true rfl) dX6_doTurn_41 ⟨Nat.zero_le _, Nat.zero_le _⟩) (fun r1  H locs hpo hH => ?_)
      have hq := hq r1  hpo
      refine lv_if_eq (tgt := 154) hx hb dX6_doTurn_44 (by decide) (fun hc => ?_) (fun hc => ?_)
      · have hq := hq.1 hc
        exact s_X6_doTurn_154  C0 hK32 v2 v3 _ _ _ _ hq hH (lv_sub hl [0, 1, 2, 3] rfl)
      · have hq := hq.2 hc
        refine lv_aload_n hx hb dX6_doTurn_47 rfl (lv_at hl 0 rfl) ?_
        refine lv_iload_n hx hb dX6_doTurn_48 rfl (lv_at hl 2 rfl) ?_
        refine lv_iload_n hx hb dX6_doTurn_49 rfl (lv_at hl 3 rfl) ?_
        obtain ⟨hp, hq⟩ := hq
        refine w_cIp hH (w_rV (As := [.int v2, .int v3]) (rest := []) hX hK hE hH (c_X6_next  _ _ _ hp) ck6 sh111 q4_199 q4_201 qs38 q1_7 q4_202 hd_X6_next ⟨Nat.le_of_ble_eq_true rfl, Nat.le_of_ble_eq_true rfl⟩ ⟨rfl, rfl⟩ rfl hl.1 rfl (Nat.le_of_ble_eq_true rfl) dX6_doTurn_50 ⟨Nat.zero_le _, Nat.zero_le _⟩) (fun r2  H locs hpo hH => ?_)
        have hq := hq r2  hpo
        refine lv_istore (lv' := [(4, .int r2), (0, .ref (b + 111)), (1, .int x1), (2, .int v2), (3, .int v3)]) hx hb dX6_doTurn_53 hl (by decide) rfl (fun ls hl => ?_)
        refine lv_iload_n hx hb dX6_doTurn_55 rfl (lv_at hl 2 rfl) ?_
        refine lv_iconst (v := 5) hx hb dX6_doTurn_56 (by decide) ?_
        refine lv_icmp_ge (tgt := 64) hx hb dX6_doTurn_57 (by decide) (fun hc => ?_) (fun hc => ?_)
        · have hq := hq.1 hc
          refine lv_iload hx hb dX6_doTurn_64 (lv_at hl 0 rfl) ?_
          exact s_X6_doTurn_66  C0 hK32 v2 v3 r2 r2 _ _ _ _ hq hH (lv_sub hl [1, 2, 3, 4, 0] rfl)
        · have hq := hq.2 hc
          refine lv_iload_n hx hb dX6_doTurn_60 rfl (lv_at hl 4 rfl) ?_
          refine lv_goto (tgt := 66) hx hb dX6_doTurn_61 (by decide) ?_
          exact s_X6_doTurn_66  C0 hK32 v2 v3 r2 v3 _ _ _ _ hq hH (lv_sub hl [1, 2, 3, 4, 0] rfl)
set_option maxRecDepth 100000 in
set_option maxHeartbeats 4000000 in
theorem s_X6_doTurn_6 {x1 : Int32} {Q : wI → Prop} (C0 : wCx p m c s args meth cX6_doTurn 8 RX6 none D cs ad b) : ∀ (f : Nat) (v2 : Int32) (v3 : Int32) (I : wI) (H : Heap) (locs : List Loc) (ls : Array Slot), v_X6_doTurn_6 x1 Q f v2 v3 I → wH D cs b G I s H locs → lv_has ls 8 [(0, .ref (b + 111)), (1, .int x1), (2, .int v2), (3, .int v3)] → W p l e rm_X6_doTurn s m args below meth c H locs 0 0 (MQ below (va_Qv (Q) (wPo D cs b G) (fun q => b ≤ q)) args s 0 0 (fun q => b ≤ q)) (F0 m 6 ls []) := by
  obtain ⟨hX, hr, hlk, hK, hE⟩ := id C0
  have hx := hX.1
  have hb := hX.2.1
  have hown := hX.2.2.2.1
  have hts := hX.2.2.2.2
  intro f
  induction f with
  | zero =>
    intro v2 v3 I H locs ls hq
    exact hq.elim
  | succ f hK6 =>
    intro v2 v3 I H locs ls hq hH hl
    have hq : g_X6_doTurn_6 x1 Q (v_X6_doTurn_6 x1 Q f) v2 v3 I := hq
    unfold g_X6_doTurn_6 at hq
    refine lv_iload_n hx hb dX6_doTurn_6 rfl (lv_at hl 3 rfl) ?_
    refine lv_bipush (v := 12) hx hb dX6_doTurn_7 (by decide) ?_
    refine lv_icmp_ge (tgt := 30) hx hb dX6_doTurn_9 (by decide) (fun hc => ?_) (fun hc => ?_)
    · have hq := hq.1 hc
      refine lv_iconst (v := 0) hx hb dX6_doTurn_30 (by decide) ?_
      refine lv_istore_n (lv' := [(3, .int (0 : Int32)), (0, .ref (b + 111)), (1, .int x1), (2, .int v2)]) hx hb dX6_doTurn_31 rfl hl (by decide) rfl (fun ls hl => ?_)
      obtain ⟨f, hq⟩ := hq
      exact s_X6_doTurn_32  C0  f v2 (0 : Int32) _ _ _ _ hq hH (lv_sub hl [1, 2, 3, 0] rfl)
    · have hq := hq.2 hc
      refine lv_aload_n hx hb dX6_doTurn_12 rfl (lv_at hl 0 rfl) ?_
      refine w_getr hX hK hH ck6 sh111 9 6 117 fr6_9 rfl q4_82 dX6_doTurn_13 ?_
      refine lv_iload_n hx hb dX6_doTurn_16 rfl (lv_at hl 3 rfl) ?_
      refine lv_aload_n hx hb dX6_doTurn_17 rfl (lv_at hl 0 rfl) ?_
      refine w_getr hX hK hH ck6 sh111 1 1 112 fr6_1 rfl q4_74 dX6_doTurn_18 ?_
      refine lv_iload_n hx hb dX6_doTurn_21 rfl (lv_at hl 3 rfl) ?_
      obtain ⟨hc, hq⟩ := hq
      refine w_iald hX hK hH (sf6_1 sh111) hc dX6_doTurn_22 ?_
      obtain ⟨hc, hq⟩ := hq
      refine w_iast hX hK hH (sf6_9 sh111) hc dX6_doTurn_23 (fun I1 H locs hI hH => ?_)
      have hq := hq I1 hI
      refine lv_iinc (v := (v3 + (1 : Int32))) (lv' := [(3, .int (v3 + (1 : Int32))), (0, .ref (b + 111)), (1, .int x1), (2, .int v2)]) hx hb dX6_doTurn_24 hl (k := 3) rfl rfl (by decide) rfl (fun ls hl => ?_)
      refine lv_goto (tgt := 6) hx hb dX6_doTurn_27 (by decide) ?_
      exact hK6 v2 (v3 + (1 : Int32)) _ _ _ _ hq hH (lv_sub hl [1, 2, 3, 0] rfl)
set_option maxRecDepth 100000 in
set_option maxHeartbeats 4000000 in
theorem c_X6_doTurn {l : Launch} {D : va_G} {cs : wC4} {ad : Nat → Nat} {b : Nat} {G : wG} (x1 : Int32) (I : wI) (hp : pre_X6_doTurn x1 I) : Met l yX6_doTurn (ws_ yX6_doTurn cX6_doTurn 8 none) rm_X6_doTurn (va_Pc [.ref (b + 111), .int x1] (wPr D cs ad b G I)) (va_Qv (fun I' => post_X6_doTurn x1 I I') (wPo D cs b G) (fun q => b ≤ q)) 0 0 (fun q => b ≤ q) := by
  have hq := vc_X6_doTurn x1 I hp
  refine w_met (by decide) (Nat.le_of_ble_eq_true rfl) ?_
  intro p e s m below meth c hX hr hlk hK hE hH ls hl
  have C0 : wCx p m c s _ meth cX6_doTurn 8 RX6 none D cs ad b := ⟨hX, hr, hlk, hK, hE⟩
  have hX : CallFix p m c cX6_doTurn 8 s _ lw_all RX6 := hX
  have hx := hX.1
  have hb := hX.2.1
  have hown := hX.2.2.2.1
  have hts := hX.2.2.2.2
  have hl : lv_has ls 8 [(0, .ref (b + 111)), (1, .int x1)] := hl
  unfold v_X6_doTurn at hq
  refine lv_iload_n hx hb dX6_doTurn_0 rfl (lv_at hl 1 rfl) ?_
  refine lv_iconst (v := 5) hx hb dX6_doTurn_1 (by decide) ?_
  refine lv_irem hx hb dX6_doTurn_2 (by decide) ?_
  refine lv_istore_n (lv' := [(2, .int (x1 - x1 / (5 : Int32) * (5 : Int32))), (0, .ref (b + 111)), (1, .int x1)]) hx hb dX6_doTurn_3 rfl hl (by decide) rfl (fun ls hl => ?_)
  refine lv_iconst (v := 0) hx hb dX6_doTurn_4 (by decide) ?_
  refine lv_istore_n (lv' := [(3, .int (0 : Int32)), (2, .int (x1 - x1 / (5 : Int32) * (5 : Int32))), (0, .ref (b + 111)), (1, .int x1)]) hx hb dX6_doTurn_5 rfl hl (by decide) rfl (fun ls hl => ?_)
  obtain ⟨f, hq⟩ := hq
  exact s_X6_doTurn_6  C0  f (x1 - x1 / (5 : Int32) * (5 : Int32)) (0 : Int32) _ _ _ _ hq hH (lv_sub hl [2, 3, 1, 0] rfl)
abbrev rm_X6_isStuck : Room := { frames := 1, cells := 0, slots := 0, locals := 22 }
theorem hd_X6_isStuck : yX6_isStuck.cls = RX6 ∧ yX6_isStuck.cls ≠ "java/lang/invoke/MethodHandle" ∧ yX6_isStuck.cls ≠ "java/lang/invoke/VarHandle" ∧ (parseMethodDescriptor yX6_isStuck.desc).map (fun d => d.parameters.length) = some 1 := by decide +kernel
set_option maxRecDepth 100000 in
set_option maxHeartbeats 4000000 in
theorem s_X6_isStuck_41 {x1 : Int32} {I : wI} {Q : Int32 → Prop} {K4 : Int32 → Int32 → Prop} (C0 : wCx p m c s args meth cX6_isStuck 4 RX6 (some .boolean) D cs ad b) (hK4 : ∀ (v2 : Int32) (v3 : Int32) (H : Heap) (locs : List Loc) (ls : Array Slot), K4 v2 v3 → wH D cs b G I s H locs → lv_has ls 4 [(0, .ref (b + 111)), (1, .int x1), (2, .int v2), (3, .int v3)] → W p l e rm_X6_isStuck s m args below meth c H locs 0 0 (MQ below (va_Qi (fun r I' => I' = I ∧ Q r) (wPo D cs b G) (fun q => b ≤ q)) args s 0 0 (fun q => b ≤ q)) (F0 m 4 ls [])) : ∀ (v3 : Int32) (t0 : Int32) (H : Heap) (locs : List Loc) (ls : Array Slot), v_X6_isStuck_41 x1 I Q K4 v3 t0 → wH D cs b G I s H locs → lv_has ls 4 [(0, .ref (b + 111)), (1, .int x1), (3, .int v3)] → W p l e rm_X6_isStuck s m args below meth c H locs 0 0 (MQ below (va_Qi (fun r I' => I' = I ∧ Q r) (wPo D cs b G) (fun q => b ≤ q)) args s 0 0 (fun q => b ≤ q)) (F0 m 41 ls [.int t0]) := by
  obtain ⟨hX, hr, hlk, hK, hE⟩ := id C0
  have hx := hX.1
  have hb := hX.2.1
  have hown := hX.2.2.2.1
  have hts := hX.2.2.2.2
  intro v3 t0 H locs ls hq hH hl
  unfold v_X6_isStuck_41 at hq
  refine lv_istore_n (lv' := [(2, .int t0), (0, .ref (b + 111)), (1, .int x1), (3, .int v3)]) hx hb dX6_isStuck_41 rfl hl (by decide) rfl (fun ls hl => ?_)
  refine lv_iinc (v := (v3 + (1 : Int32))) (lv' := [(3, .int (v3 + (1 : Int32))), (2, .int t0), (0, .ref (b + 111)), (1, .int x1)]) hx hb dX6_isStuck_42 hl (k := 3) rfl rfl (by decide) rfl (fun ls hl => ?_)
  refine lv_goto (tgt := 4) hx hb dX6_isStuck_45 (by decide) ?_
  exact hK4 t0 (v3 + (1 : Int32)) _ _ _ hq hH (lv_sub hl [2, 3, 1, 0] rfl)
set_option maxRecDepth 100000 in
set_option maxHeartbeats 4000000 in
theorem s_X6_isStuck_40 {x1 : Int32} {I : wI} {Q : Int32 → Prop} {K4 : Int32 → Int32 → Prop} (C0 : wCx p m c s args meth cX6_isStuck 4 RX6 (some .boolean) D cs ad b) (hK4 : ∀ (v2 : Int32) (v3 : Int32) (H : Heap) (locs : List Loc) (ls : Array Slot), K4 v2 v3 → wH D cs b G I s H locs → lv_has ls 4 [(0, .ref (b + 111)), (1, .int x1), (2, .int v2), (3, .int v3)] → W p l e rm_X6_isStuck s m args below meth c H locs 0 0 (MQ below (va_Qi (fun r I' => I' = I ∧ Q r) (wPo D cs b G) (fun q => b ≤ q)) args s 0 0 (fun q => b ≤ q)) (F0 m 4 ls [])) : ∀ (v3 : Int32) (H : Heap) (locs : List Loc) (ls : Array Slot), v_X6_isStuck_40 x1 I Q K4 v3 → wH D cs b G I s H locs → lv_has ls 4 [(0, .ref (b + 111)), (1, .int x1), (3, .int v3)] → W p l e rm_X6_isStuck s m args below meth c H locs 0 0 (MQ below (va_Qi (fun r I' => I' = I ∧ Q r) (wPo D cs b G) (fun q => b ≤ q)) args s 0 0 (fun q => b ≤ q)) (F0 m 40 ls []) := by
  obtain ⟨hX, hr, hlk, hK, hE⟩ := id C0
  have hx := hX.1
  have hb := hX.2.1
  have hown := hX.2.2.2.1
  have hts := hX.2.2.2.2
  intro v3 H locs ls hq hH hl
  unfold v_X6_isStuck_40 at hq
  refine lv_iconst (v := 0) hx hb dX6_isStuck_40 (by decide) ?_
  exact s_X6_isStuck_41  C0 hK4 v3 (0 : Int32) _ _ _ hq hH (lv_sub hl [0, 1, 2] rfl)
set_option maxRecDepth 100000 in
set_option maxHeartbeats 4000000 in
theorem s_X6_isStuck_36 {x1 : Int32} {I : wI} {Q : Int32 → Prop} {K4 : Int32 → Int32 → Prop} (C0 : wCx p m c s args meth cX6_isStuck 4 RX6 (some .boolean) D cs ad b) (hK4 : ∀ (v2 : Int32) (v3 : Int32) (H : Heap) (locs : List Loc) (ls : Array Slot), K4 v2 v3 → wH D cs b G I s H locs → lv_has ls 4 [(0, .ref (b + 111)), (1, .int x1), (2, .int v2), (3, .int v3)] → W p l e rm_X6_isStuck s m args below meth c H locs 0 0 (MQ below (va_Qi (fun r I' => I' = I ∧ Q r) (wPo D cs b G) (fun q => b ≤ q)) args s 0 0 (fun q => b ≤ q)) (F0 m 4 ls [])) : ∀ (v3 : Int32) (H : Heap) (locs : List Loc) (ls : Array Slot), v_X6_isStuck_36 x1 I Q K4 v3 → wH D cs b G I s H locs → lv_has ls 4 [(0, .ref (b + 111)), (1, .int x1), (3, .int v3)] → W p l e rm_X6_isStuck s m args below meth c H locs 0 0 (MQ below (va_Qi (fun r I' => I' = I ∧ Q r) (wPo D cs b G) (fun q => b ≤ q)) args s 0 0 (fun q => b ≤ q)) (F0 m 36 ls []) := by
  obtain ⟨hX, hr, hlk, hK, hE⟩ := id C0
  have hx := hX.1
  have hb := hX.2.1
  have hown := hX.2.2.2.1
  have hts := hX.2.2.2.2
  intro v3 H locs ls hq hH hl
  unfold v_X6_isStuck_36 at hq
  refine lv_iconst (v := 1) hx hb dX6_isStuck_36 (by decide) ?_
  refine lv_goto (tgt := 41) hx hb dX6_isStuck_37 (by decide) ?_
  exact s_X6_isStuck_41  C0 hK4 v3 (1 : Int32) _ _ _ hq hH (lv_sub hl [0, 1, 2] rfl)
set_option maxRecDepth 100000 in
set_option maxHeartbeats 4000000 in
theorem s_X6_isStuck_4 {x1 : Int32} {I : wI} {Q : Int32 → Prop} (C0 : wCx p m c s args meth cX6_isStuck 4 RX6 (some .boolean) D cs ad b) : ∀ (f : Nat) (v2 : Int32) (v3 : Int32) (H : Heap) (locs : List Loc) (ls : Array Slot), v_X6_isStuck_4 x1 I Q f v2 v3 → wH D cs b G I s H locs → lv_has ls 4 [(0, .ref (b + 111)), (1, .int x1), (2, .int v2), (3, .int v3)] → W p l e rm_X6_isStuck s m args below meth c H locs 0 0 (MQ below (va_Qi (fun r I' => I' = I ∧ Q r) (wPo D cs b G) (fun q => b ≤ q)) args s 0 0 (fun q => b ≤ q)) (F0 m 4 ls []) := by
  obtain ⟨hX, hr, hlk, hK, hE⟩ := id C0
  have hx := hX.1
  have hb := hX.2.1
  have hown := hX.2.2.2.1
  have hts := hX.2.2.2.2
  intro f
  induction f with
  | zero =>
    intro v2 v3 H locs ls hq
    exact hq.elim
  | succ f hK4 =>
    intro v2 v3 H locs ls hq hH hl
    have hq : g_X6_isStuck_4 x1 I Q (v_X6_isStuck_4 x1 I Q f) v2 v3 := hq
    unfold g_X6_isStuck_4 at hq
    refine lv_iload_n hx hb dX6_isStuck_4 rfl (lv_at hl 3 rfl) ?_
    refine lv_bipush (v := 6) hx hb dX6_isStuck_5 (by decide) ?_
    refine lv_icmp_ge (tgt := 48) hx hb dX6_isStuck_7 (by decide) (fun hc => ?_) (fun hc => ?_)
    · have hq := hq.1 hc
      refine lv_iload_n hx hb dX6_isStuck_48 rfl (lv_at hl 2 rfl) ?_
      obtain ⟨hz, hq⟩ := hq
      exact w_eZ hz hX hr hlk hH ⟨rfl, hq⟩ dX6_isStuck_49
    · have hq := hq.2 hc
      refine lv_iload_n hx hb dX6_isStuck_10 rfl (lv_at hl 2 rfl) ?_
      refine lv_if_ne (tgt := 36) hx hb dX6_isStuck_11 (by decide) (fun hc => ?_) (fun hc => ?_)
      · have hq := hq.1 hc
        exact s_X6_isStuck_36  C0 hK4 v3 _ _ _ hq hH (lv_sub hl [0, 1, 3] rfl)
      · have hq := hq.2 hc
        refine lv_aload_n hx hb dX6_isStuck_14 rfl (lv_at hl 0 rfl) ?_
        refine lv_iload_n hx hb dX6_isStuck_15 rfl (lv_at hl 1 rfl) ?_
        refine lv_iload_n hx hb dX6_isStuck_16 rfl (lv_at hl 3 rfl) ?_
        obtain ⟨hp, hq⟩ := hq
        refine w_cIp hH (w_rV (As := [.int x1, .int v3]) (rest := []) hX hK hE hH (c_X6_has  _ _ _ hp) ck6 sh111 q4_175 q4_177 qs32 q1_7 q4_178 hd_X6_has ⟨Nat.le_of_ble_eq_true rfl, Nat.le_of_ble_eq_true rfl⟩ ⟨rfl, rfl⟩ rfl hl.1 rfl (Nat.le_of_ble_eq_true rfl) dX6_isStuck_17 ⟨Nat.zero_le _, Nat.zero_le _⟩) (fun r1  H locs hpo hH => ?_)
        have hq := hq r1  hpo
        refine lv_if_eq (tgt := 40) hx hb dX6_isStuck_20 (by decide) (fun hc => ?_) (fun hc => ?_)
        · have hq := hq.1 hc
          exact s_X6_isStuck_40  C0 hK4 v3 _ _ _ hq hH (lv_sub hl [0, 1, 3] rfl)
        · have hq := hq.2 hc
          refine lv_aload_n hx hb dX6_isStuck_23 rfl (lv_at hl 0 rfl) ?_
          refine w_getr hX hK hH ck6 sh111 1 1 112 fr6_1 rfl q4_74 dX6_isStuck_24 ?_
          refine lv_bipush (v := 12) hx hb dX6_isStuck_27 (by decide) ?_
          refine lv_iload_n hx hb dX6_isStuck_29 rfl (lv_at hl 3 rfl) ?_
          refine lv_iadd hx hb dX6_isStuck_30 ?_
          obtain ⟨hc, hq⟩ := hq
          refine w_iald hX hK hH (sf6_1 sh111) hc dX6_isStuck_31 ?_
          refine lv_iconst (v := 1) hx hb dX6_isStuck_32 (by decide) ?_
          refine lv_icmp_ne (tgt := 40) hx hb dX6_isStuck_33 (by decide) (fun hc => ?_) (fun hc => ?_)
          · have hq := hq.1 hc
            exact s_X6_isStuck_40  C0 hK4 v3 _ _ _ hq hH (lv_sub hl [0, 1, 3] rfl)
          · have hq := hq.2 hc
            exact s_X6_isStuck_36  C0 hK4 v3 _ _ _ hq hH (lv_sub hl [0, 1, 3] rfl)
set_option maxRecDepth 100000 in
set_option maxHeartbeats 4000000 in
theorem c_X6_isStuck {l : Launch} {D : va_G} {cs : wC4} {ad : Nat → Nat} {b : Nat} {G : wG} (x1 : Int32) (I : wI) (hp : pre_X6_isStuck x1 I) : Met l yX6_isStuck (ws_ yX6_isStuck cX6_isStuck 4 (some .boolean)) rm_X6_isStuck (va_Pc [.ref (b + 111), .int x1] (wPr D cs ad b G I)) (va_Qi (fun r I' => I' = I ∧ post_X6_isStuck x1 I r) (wPo D cs b G) (fun q => b ≤ q)) 0 0 (fun q => b ≤ q) := by
  have hq := vc_X6_isStuck x1 I hp
  refine w_met (by decide) (Nat.le_of_ble_eq_true rfl) ?_
  intro p e s m below meth c hX hr hlk hK hE hH ls hl
  have C0 : wCx p m c s _ meth cX6_isStuck 4 RX6 (some .boolean) D cs ad b := ⟨hX, hr, hlk, hK, hE⟩
  have hX : CallFix p m c cX6_isStuck 4 s _ lw_all RX6 := hX
  have hx := hX.1
  have hb := hX.2.1
  have hown := hX.2.2.2.1
  have hts := hX.2.2.2.2
  have hl : lv_has ls 4 [(0, .ref (b + 111)), (1, .int x1)] := hl
  unfold v_X6_isStuck at hq
  refine lv_iconst (v := 0) hx hb dX6_isStuck_0 (by decide) ?_
  refine lv_istore_n (lv' := [(2, .int (0 : Int32)), (0, .ref (b + 111)), (1, .int x1)]) hx hb dX6_isStuck_1 rfl hl (by decide) rfl (fun ls hl => ?_)
  refine lv_iconst (v := 0) hx hb dX6_isStuck_2 (by decide) ?_
  refine lv_istore_n (lv' := [(3, .int (0 : Int32)), (2, .int (0 : Int32)), (0, .ref (b + 111)), (1, .int x1)]) hx hb dX6_isStuck_3 rfl hl (by decide) rfl (fun ls hl => ?_)
  obtain ⟨f, hq⟩ := hq
  exact s_X6_isStuck_4  C0  f (0 : Int32) (0 : Int32) _ _ _ hq hH (lv_sub hl [2, 3, 1, 0] rfl)
abbrev rm_X6_isRight : Room := { frames := 0, cells := 0, slots := 0, locals := 0 }
theorem hd_X6_isRight : yX6_isRight.cls = RX6 ∧ yX6_isRight.cls ≠ "java/lang/invoke/MethodHandle" ∧ yX6_isRight.cls ≠ "java/lang/invoke/VarHandle" ∧ (parseMethodDescriptor yX6_isRight.desc).map (fun d => d.parameters.length) = some 1 := by decide +kernel
set_option maxRecDepth 100000 in
set_option maxHeartbeats 4000000 in
theorem s_X6_isRight_57 {x1 : Int32} {I : wI} {Q : Int32 → Prop} (C0 : wCx p m c s args meth cX6_isRight 2 RX6 (some .boolean) D cs ad b) : ∀ (t0 : Int32) (H : Heap) (locs : List Loc) (ls : Array Slot), v_X6_isRight_57 x1 I Q t0 → wH D cs b G I s H locs → lv_has ls 2 [] → W p l e rm_X6_isRight s m args below meth c H locs 0 0 (MQ below (va_Qi (fun r I' => I' = I ∧ Q r) (wPo D cs b G) (fun q => b ≤ q)) args s 0 0 (fun q => b ≤ q)) (F0 m 57 ls [.int t0]) := by
  obtain ⟨hX, hr, hlk, hK, hE⟩ := id C0
  have hx := hX.1
  have hb := hX.2.1
  have hown := hX.2.2.2.1
  have hts := hX.2.2.2.2
  intro t0 H locs ls hq hH hl
  unfold v_X6_isRight_57 at hq
  obtain ⟨hz, hq⟩ := hq
  exact w_eZ hz hX hr hlk hH ⟨rfl, hq⟩ dX6_isRight_57
set_option maxRecDepth 100000 in
set_option maxHeartbeats 4000000 in
theorem s_X6_isRight_56 {x1 : Int32} {I : wI} {Q : Int32 → Prop} (C0 : wCx p m c s args meth cX6_isRight 2 RX6 (some .boolean) D cs ad b) : ∀  (H : Heap) (locs : List Loc) (ls : Array Slot), v_X6_isRight_56 x1 I Q  → wH D cs b G I s H locs → lv_has ls 2 [] → W p l e rm_X6_isRight s m args below meth c H locs 0 0 (MQ below (va_Qi (fun r I' => I' = I ∧ Q r) (wPo D cs b G) (fun q => b ≤ q)) args s 0 0 (fun q => b ≤ q)) (F0 m 56 ls []) := by
  obtain ⟨hX, hr, hlk, hK, hE⟩ := id C0
  have hx := hX.1
  have hb := hX.2.1
  have hown := hX.2.2.2.1
  have hts := hX.2.2.2.2
  intro  H locs ls hq hH hl
  unfold v_X6_isRight_56 at hq
  refine lv_iconst (v := 0) hx hb dX6_isRight_56 (by decide) ?_
  exact s_X6_isRight_57  C0  (0 : Int32) _ _ _ hq hH (lv_sub hl [] rfl)
set_option maxRecDepth 100000 in
set_option maxHeartbeats 4000000 in
theorem c_X6_isRight {l : Launch} {D : va_G} {cs : wC4} {ad : Nat → Nat} {b : Nat} {G : wG} (x1 : Int32) (I : wI) (hp : pre_X6_isRight x1 I) : Met l yX6_isRight (ws_ yX6_isRight cX6_isRight 2 (some .boolean)) rm_X6_isRight (va_Pc [.ref (b + 111), .int x1] (wPr D cs ad b G I)) (va_Qi (fun r I' => I' = I ∧ post_X6_isRight x1 I r) (wPo D cs b G) (fun q => b ≤ q)) 0 0 (fun q => b ≤ q) := by
  have hq := vc_X6_isRight x1 I hp
  refine w_met (by decide) (Nat.le_of_ble_eq_true rfl) ?_
  intro p e s m below meth c hX hr hlk hK hE hH ls hl
  have C0 : wCx p m c s _ meth cX6_isRight 2 RX6 (some .boolean) D cs ad b := ⟨hX, hr, hlk, hK, hE⟩
  have hX : CallFix p m c cX6_isRight 2 s _ lw_all RX6 := hX
  have hx := hX.1
  have hb := hX.2.1
  have hown := hX.2.2.2.1
  have hts := hX.2.2.2.2
  have hl : lv_has ls 2 [(0, .ref (b + 111)), (1, .int x1)] := hl
  unfold v_X6_isRight at hq
  refine lv_aload_n hx hb dX6_isRight_0 rfl (lv_at hl 0 rfl) ?_
  refine w_getr hX hK hH ck6 sh111 1 1 112 fr6_1 rfl q4_74 dX6_isRight_1 ?_
  refine lv_bipush (v := 36) hx hb dX6_isRight_4 (by decide) ?_
  obtain ⟨hc, hq⟩ := hq
  refine w_iald hX hK hH (sf6_1 sh111) hc dX6_isRight_6 ?_
  refine lv_iconst (v := 1) hx hb dX6_isRight_7 (by decide) ?_
  refine lv_icmp_ne (tgt := 56) hx hb dX6_isRight_8 (by decide) (fun hc => ?_) (fun hc => ?_)
  · have hq := hq.1 hc
    exact s_X6_isRight_56  C0   _ _ _ hq hH (lv_sub hl [] rfl)
  · have hq := hq.2 hc
    refine lv_aload_n hx hb dX6_isRight_11 rfl (lv_at hl 0 rfl) ?_
    refine w_getr hX hK hH ck6 sh111 1 1 112 fr6_1 rfl q4_74 dX6_isRight_12 ?_
    refine lv_iconst (v := 0) hx hb dX6_isRight_15 (by decide) ?_
    refine lv_iload_n hx hb dX6_isRight_16 rfl (lv_at hl 1 rfl) ?_
    refine lv_iadd hx hb dX6_isRight_17 ?_
    obtain ⟨hc, hq⟩ := hq
    refine w_iald hX hK hH (sf6_1 sh111) hc dX6_isRight_18 ?_
    refine lv_aload_n hx hb dX6_isRight_19 rfl (lv_at hl 0 rfl) ?_
    refine w_getr hX hK hH ck6 sh111 1 1 112 fr6_1 rfl q4_74 dX6_isRight_20 ?_
    refine lv_bipush (v := 37) hx hb dX6_isRight_23 (by decide) ?_
    refine lv_iload_n hx hb dX6_isRight_25 rfl (lv_at hl 1 rfl) ?_
    refine lv_iadd hx hb dX6_isRight_26 ?_
    obtain ⟨hc, hq⟩ := hq
    refine w_iald hX hK hH (sf6_1 sh111) hc dX6_isRight_27 ?_
    refine lv_icmp_ne (tgt := 56) hx hb dX6_isRight_28 (by decide) (fun hc => ?_) (fun hc => ?_)
    · have hq := hq.1 hc
      exact s_X6_isRight_56  C0   _ _ _ hq hH (lv_sub hl [] rfl)
    · have hq := hq.2 hc
      refine lv_aload_n hx hb dX6_isRight_31 rfl (lv_at hl 0 rfl) ?_
      refine w_getr hX hK hH ck6 sh111 1 1 112 fr6_1 rfl q4_74 dX6_isRight_32 ?_
      refine lv_bipush (v := 6) hx hb dX6_isRight_35 (by decide) ?_
      refine lv_iload_n hx hb dX6_isRight_37 rfl (lv_at hl 1 rfl) ?_
      refine lv_iadd hx hb dX6_isRight_38 ?_
      obtain ⟨hc, hq⟩ := hq
      refine w_iald hX hK hH (sf6_1 sh111) hc dX6_isRight_39 ?_
      refine lv_aload_n hx hb dX6_isRight_40 rfl (lv_at hl 0 rfl) ?_
      refine w_getr hX hK hH ck6 sh111 1 1 112 fr6_1 rfl q4_74 dX6_isRight_41 ?_
      refine lv_bipush (v := 43) hx hb dX6_isRight_44 (by decide) ?_
      refine lv_iload_n hx hb dX6_isRight_46 rfl (lv_at hl 1 rfl) ?_
      refine lv_iadd hx hb dX6_isRight_47 ?_
      obtain ⟨hc, hq⟩ := hq
      refine w_iald hX hK hH (sf6_1 sh111) hc dX6_isRight_48 ?_
      refine lv_icmp_ne (tgt := 56) hx hb dX6_isRight_49 (by decide) (fun hc => ?_) (fun hc => ?_)
      · have hq := hq.1 hc
        exact s_X6_isRight_56  C0   _ _ _ hq hH (lv_sub hl [] rfl)
      · have hq := hq.2 hc
        refine lv_iconst (v := 1) hx hb dX6_isRight_52 (by decide) ?_
        refine lv_goto (tgt := 57) hx hb dX6_isRight_53 (by decide) ?_
        exact s_X6_isRight_57  C0  (1 : Int32) _ _ _ hq hH (lv_sub hl [] rfl)
abbrev rm_X6_right : Room := { frames := 1, cells := 0, slots := 0, locals := 21 }
theorem hd_X6_right : yX6_right.cls = RX6 ∧ yX6_right.cls ≠ "java/lang/invoke/MethodHandle" ∧ yX6_right.cls ≠ "java/lang/invoke/VarHandle" ∧ (parseMethodDescriptor yX6_right.desc).map (fun d => d.parameters.length) = some 0 := by decide +kernel
set_option maxRecDepth 100000 in
set_option maxHeartbeats 4000000 in
theorem s_X6_right_24 {I : wI} {Q : Int32 → Prop} {K4 : Int32 → Int32 → Prop} (C0 : wCx p m c s args meth cX6_right 3 RX6 (some .int) D cs ad b) (hK4 : ∀ (v1 : Int32) (v2 : Int32) (H : Heap) (locs : List Loc) (ls : Array Slot), K4 v1 v2 → wH D cs b G I s H locs → lv_has ls 3 [(0, .ref (b + 111)), (1, .int v1), (2, .int v2)] → W p l e rm_X6_right s m args below meth c H locs 0 0 (MQ below (va_Qi (fun r I' => I' = I ∧ Q r) (wPo D cs b G) (fun q => b ≤ q)) args s 0 0 (fun q => b ≤ q)) (F0 m 4 ls [])) : ∀ (v2 : Int32) (t0 : Int32) (t1 : Int32) (H : Heap) (locs : List Loc) (ls : Array Slot), v_X6_right_24 I Q K4 v2 t0 t1 → wH D cs b G I s H locs → lv_has ls 3 [(0, .ref (b + 111)), (2, .int v2)] → W p l e rm_X6_right s m args below meth c H locs 0 0 (MQ below (va_Qi (fun r I' => I' = I ∧ Q r) (wPo D cs b G) (fun q => b ≤ q)) args s 0 0 (fun q => b ≤ q)) (F0 m 24 ls [.int t0, .int t1]) := by
  obtain ⟨hX, hr, hlk, hK, hE⟩ := id C0
  have hx := hX.1
  have hb := hX.2.1
  have hown := hX.2.2.2.1
  have hts := hX.2.2.2.2
  intro v2 t0 t1 H locs ls hq hH hl
  unfold v_X6_right_24 at hq
  refine lv_iadd hx hb dX6_right_24 ?_
  refine lv_istore_n (lv' := [(1, .int (t1 + t0)), (0, .ref (b + 111)), (2, .int v2)]) hx hb dX6_right_25 rfl hl (by decide) rfl (fun ls hl => ?_)
  refine lv_iinc (v := (v2 + (1 : Int32))) (lv' := [(2, .int (v2 + (1 : Int32))), (1, .int (t1 + t0)), (0, .ref (b + 111))]) hx hb dX6_right_26 hl (k := 2) rfl rfl (by decide) rfl (fun ls hl => ?_)
  refine lv_goto (tgt := 4) hx hb dX6_right_29 (by decide) ?_
  exact hK4 (t1 + t0) (v2 + (1 : Int32)) _ _ _ hq hH (lv_sub hl [2, 1, 0] rfl)
set_option maxRecDepth 100000 in
set_option maxHeartbeats 4000000 in
theorem s_X6_right_4 {I : wI} {Q : Int32 → Prop} (C0 : wCx p m c s args meth cX6_right 3 RX6 (some .int) D cs ad b) : ∀ (f : Nat) (v1 : Int32) (v2 : Int32) (H : Heap) (locs : List Loc) (ls : Array Slot), v_X6_right_4 I Q f v1 v2 → wH D cs b G I s H locs → lv_has ls 3 [(0, .ref (b + 111)), (1, .int v1), (2, .int v2)] → W p l e rm_X6_right s m args below meth c H locs 0 0 (MQ below (va_Qi (fun r I' => I' = I ∧ Q r) (wPo D cs b G) (fun q => b ≤ q)) args s 0 0 (fun q => b ≤ q)) (F0 m 4 ls []) := by
  obtain ⟨hX, hr, hlk, hK, hE⟩ := id C0
  have hx := hX.1
  have hb := hX.2.1
  have hown := hX.2.2.2.1
  have hts := hX.2.2.2.2
  intro f
  induction f with
  | zero =>
    intro v1 v2 H locs ls hq
    exact hq.elim
  | succ f hK4 =>
    intro v1 v2 H locs ls hq hH hl
    have hq : g_X6_right_4 I Q (v_X6_right_4 I Q f) v1 v2 := hq
    unfold g_X6_right_4 at hq
    refine lv_iload_n hx hb dX6_right_4 rfl (lv_at hl 2 rfl) ?_
    refine lv_bipush (v := 6) hx hb dX6_right_5 (by decide) ?_
    refine lv_icmp_ge (tgt := 32) hx hb dX6_right_7 (by decide) (fun hc => ?_) (fun hc => ?_)
    · have hq := hq.1 hc
      refine lv_iload_n hx hb dX6_right_32 rfl (lv_at hl 1 rfl) ?_
      exact w_eI hX hr hlk hH ⟨rfl, hq⟩ dX6_right_33
    · have hq := hq.2 hc
      refine lv_iload_n hx hb dX6_right_10 rfl (lv_at hl 1 rfl) ?_
      refine lv_aload_n hx hb dX6_right_11 rfl (lv_at hl 0 rfl) ?_
      refine lv_iload_n hx hb dX6_right_12 rfl (lv_at hl 2 rfl) ?_
      obtain ⟨hp, hq⟩ := hq
      refine w_cIp hH (w_rV (As := [.int v2]) (rest := [.int v1]) hX hK hE hH (c_X6_isRight  _ _ hp) ck6 sh111 q4_191 q4_193 qs36 q1_7 q4_194 hd_X6_isRight ⟨Nat.le_of_ble_eq_true rfl, Nat.le_of_ble_eq_true rfl⟩ ⟨rfl, rfl⟩ rfl hl.1 rfl (Nat.le_of_ble_eq_true rfl) dX6_right_13 ⟨Nat.zero_le _, Nat.zero_le _⟩) (fun r1  H locs hpo hH => ?_)
      have hq := hq r1  hpo
      refine lv_if_eq (tgt := 23) hx hb dX6_right_16 (by decide) (fun hc => ?_) (fun hc => ?_)
      · have hq := hq.1 hc
        refine lv_iconst (v := 0) hx hb dX6_right_23 (by decide) ?_
        exact s_X6_right_24  C0 hK4 v2 (0 : Int32) v1 _ _ _ hq hH (lv_sub hl [0, 2] rfl)
      · have hq := hq.2 hc
        refine lv_iconst (v := 1) hx hb dX6_right_19 (by decide) ?_
        refine lv_goto (tgt := 24) hx hb dX6_right_20 (by decide) ?_
        exact s_X6_right_24  C0 hK4 v2 (1 : Int32) v1 _ _ _ hq hH (lv_sub hl [0, 2] rfl)
set_option maxRecDepth 100000 in
set_option maxHeartbeats 4000000 in
theorem c_X6_right {l : Launch} {D : va_G} {cs : wC4} {ad : Nat → Nat} {b : Nat} {G : wG}  (I : wI) (hp : pre_X6_right  I) : Met l yX6_right (ws_ yX6_right cX6_right 3 (some .int)) rm_X6_right (va_Pc [.ref (b + 111)] (wPr D cs ad b G I)) (va_Qi (fun r I' => I' = I ∧ post_X6_right  I r) (wPo D cs b G) (fun q => b ≤ q)) 0 0 (fun q => b ≤ q) := by
  have hq := vc_X6_right  I hp
  refine w_met (by decide) (Nat.le_of_ble_eq_true rfl) ?_
  intro p e s m below meth c hX hr hlk hK hE hH ls hl
  have C0 : wCx p m c s _ meth cX6_right 3 RX6 (some .int) D cs ad b := ⟨hX, hr, hlk, hK, hE⟩
  have hX : CallFix p m c cX6_right 3 s _ lw_all RX6 := hX
  have hx := hX.1
  have hb := hX.2.1
  have hown := hX.2.2.2.1
  have hts := hX.2.2.2.2
  have hl : lv_has ls 3 [(0, .ref (b + 111))] := hl
  unfold v_X6_right at hq
  refine lv_iconst (v := 0) hx hb dX6_right_0 (by decide) ?_
  refine lv_istore_n (lv' := [(1, .int (0 : Int32)), (0, .ref (b + 111))]) hx hb dX6_right_1 rfl hl (by decide) rfl (fun ls hl => ?_)
  refine lv_iconst (v := 0) hx hb dX6_right_2 (by decide) ?_
  refine lv_istore_n (lv' := [(2, .int (0 : Int32)), (1, .int (0 : Int32)), (0, .ref (b + 111))]) hx hb dX6_right_3 rfl hl (by decide) rfl (fun ls hl => ?_)
  obtain ⟨f, hq⟩ := hq
  exact s_X6_right_4  C0  f (0 : Int32) (0 : Int32) _ _ _ hq hH (lv_sub hl [2, 1, 0] rfl)
abbrev rm_X6_opens : Room := { frames := 2, cells := 0, slots := 0, locals := 43 }
theorem hd_X6_opens : yX6_opens.cls = RX6 ∧ yX6_opens.cls ≠ "java/lang/invoke/MethodHandle" ∧ yX6_opens.cls ≠ "java/lang/invoke/VarHandle" ∧ (parseMethodDescriptor yX6_opens.desc).map (fun d => d.parameters.length) = some 0 := by decide +kernel
set_option maxRecDepth 100000 in
set_option maxHeartbeats 4000000 in
theorem s_X6_opens_14 {I : wI} {Q : Int32 → Prop} (C0 : wCx p m c s args meth cX6_opens 1 RX6 (some .boolean) D cs ad b) : ∀ (t0 : Int32) (H : Heap) (locs : List Loc) (ls : Array Slot), v_X6_opens_14 I Q t0 → wH D cs b G I s H locs → lv_has ls 1 [] → W p l e rm_X6_opens s m args below meth c H locs 0 0 (MQ below (va_Qi (fun r I' => I' = I ∧ Q r) (wPo D cs b G) (fun q => b ≤ q)) args s 0 0 (fun q => b ≤ q)) (F0 m 14 ls [.int t0]) := by
  obtain ⟨hX, hr, hlk, hK, hE⟩ := id C0
  have hx := hX.1
  have hb := hX.2.1
  have hown := hX.2.2.2.1
  have hts := hX.2.2.2.2
  intro t0 H locs ls hq hH hl
  unfold v_X6_opens_14 at hq
  obtain ⟨hz, hq⟩ := hq
  exact w_eZ hz hX hr hlk hH ⟨rfl, hq⟩ dX6_opens_14
set_option maxRecDepth 100000 in
set_option maxHeartbeats 4000000 in
theorem c_X6_opens {l : Launch} {D : va_G} {cs : wC4} {ad : Nat → Nat} {b : Nat} {G : wG}  (I : wI) (hp : pre_X6_opens  I) : Met l yX6_opens (ws_ yX6_opens cX6_opens 1 (some .boolean)) rm_X6_opens (va_Pc [.ref (b + 111)] (wPr D cs ad b G I)) (va_Qi (fun r I' => I' = I ∧ post_X6_opens  I r) (wPo D cs b G) (fun q => b ≤ q)) 0 0 (fun q => b ≤ q) := by
  have hq := vc_X6_opens  I hp
  refine w_met (by decide) (Nat.le_of_ble_eq_true rfl) ?_
  intro p e s m below meth c hX hr hlk hK hE hH ls hl
  have C0 : wCx p m c s _ meth cX6_opens 1 RX6 (some .boolean) D cs ad b := ⟨hX, hr, hlk, hK, hE⟩
  have hX : CallFix p m c cX6_opens 1 s _ lw_all RX6 := hX
  have hx := hX.1
  have hb := hX.2.1
  have hown := hX.2.2.2.1
  have hts := hX.2.2.2.2
  have hl : lv_has ls 1 [(0, .ref (b + 111))] := hl
  unfold v_X6_opens at hq
  refine lv_aload_n hx hb dX6_opens_0 rfl (lv_at hl 0 rfl) ?_
  obtain ⟨hp, hq⟩ := hq
  refine w_cIp hH (w_rV (As := []) (rest := []) hX hK hE hH (c_X6_right   _ hp) ck6 sh111 q4_187 q4_189 qs35 q1_7 q4_190 hd_X6_right ⟨Nat.le_of_ble_eq_true rfl, Nat.le_of_ble_eq_true rfl⟩ ⟨rfl, rfl⟩ rfl hl.1 rfl (Nat.le_of_ble_eq_true rfl) dX6_opens_1 ⟨Nat.zero_le _, Nat.zero_le _⟩) (fun r1  H locs hpo hH => ?_)
  have hq := hq r1  hpo
  refine lv_bipush (v := 6) hx hb dX6_opens_4 (by decide) ?_
  refine lv_icmp_ne (tgt := 13) hx hb dX6_opens_6 (by decide) (fun hc => ?_) (fun hc => ?_)
  · have hq := hq.1 hc
    refine lv_iconst (v := 0) hx hb dX6_opens_13 (by decide) ?_
    exact s_X6_opens_14  C0  (0 : Int32) _ _ _ hq hH (lv_sub hl [] rfl)
  · have hq := hq.2 hc
    refine lv_iconst (v := 1) hx hb dX6_opens_9 (by decide) ?_
    refine lv_goto (tgt := 14) hx hb dX6_opens_10 (by decide) ?_
    exact s_X6_opens_14  C0  (1 : Int32) _ _ _ hq hH (lv_sub hl [] rfl)
end
