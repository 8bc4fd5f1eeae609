section
variable {p : Program} {l : Launch} {e : Env} {s : State} {m : MethodId} {args : Array Value} {below : List Frame} {meth : Method} {c : Code} {D : va_G} {cs : wC4} {ad : Nat → Nat} {b : Nat} {G : wG}
abbrev rm_X5_requireKey : Room := { frames := 8, cells := 0, slots := 0, locals := 120 }
theorem hd_X5_requireKey : yX5_requireKey.cls = RX5 ∧ yX5_requireKey.cls ≠ "java/lang/invoke/MethodHandle" ∧ yX5_requireKey.cls ≠ "java/lang/invoke/VarHandle" ∧ (parseMethodDescriptor yX5_requireKey.desc).map (fun d => d.parameters.length) = some 1 := by decide +kernel
set_option maxRecDepth 100000 in
set_option maxHeartbeats 4000000 in
theorem s_X5_requireKey_9 {x0 : Int32} {I : wI} {Q : Prop} (C0 : wCx p m c s args meth cX5_requireKey 1 RX5 none D cs ad b) : ∀  (H : Heap) (locs : List Loc) (ls : Array Slot), v_X5_requireKey_9 x0 I Q  → wH D cs b G I s H locs → lv_has ls 1 [] → W p l e rm_X5_requireKey s m args below meth c H locs 0 0 (MQ below (va_Qv (fun I' => I' = I ∧ Q) (wPo D cs b G) (fun q => b ≤ q)) args s 0 0 (fun q => b ≤ q)) (F0 m 9 ls []) := by
  obtain ⟨hX, hr, hlk, hK, hE⟩ := id C0
  have hx := hX.1
  have hb := hX.2.1
  have hown := hX.2.2.2.1
  have hts := hX.2.2.2.2
  intro  H locs ls hq hH hl
  unfold v_X5_requireKey_9 at hq
  exact hq.elim
set_option maxRecDepth 100000 in
set_option maxHeartbeats 4000000 in
theorem c_X5_requireKey {l : Launch} {D : va_G} {cs : wC4} {ad : Nat → Nat} {b : Nat} {G : wG} (x0 : Int32) (I : wI) (hp : pre_X5_requireKey x0 I) : Met l yX5_requireKey (ws_ yX5_requireKey cX5_requireKey 1 none) rm_X5_requireKey (va_Pc [.int x0] (wPr D cs ad b G I)) (va_Qv (fun I' => I' = I ∧ post_X5_requireKey x0 I) (wPo D cs b G) (fun q => b ≤ q)) 0 0 (fun q => b ≤ q) := by
  have hq := vc_X5_requireKey x0 I hp
  refine w_met (by decide) (Nat.le_of_ble_eq_true rfl) ?_
  intro p e s m below meth c hX hr hlk hK hE hH ls hl
  have C0 : wCx p m c s _ meth cX5_requireKey 1 RX5 none D cs ad b := ⟨hX, hr, hlk, hK, hE⟩
  have hX : CallFix p m c cX5_requireKey 1 s _ lw_all RX5 := hX
  have hx := hX.1
  have hb := hX.2.1
  have hown := hX.2.2.2.1
  have hts := hX.2.2.2.2
  have hl : lv_has ls 1 [(0, .int x0)] := hl
  unfold v_X5_requireKey at hq
  refine lv_iload_n hx hb dX5_requireKey_0 rfl (lv_at hl 0 rfl) ?_
  refine lv_if_lt (tgt := 9) hx hb dX5_requireKey_1 (by decide) (fun hc => ?_) (fun hc => ?_)
  · have hq := hq.1 hc
    exact s_X5_requireKey_9  C0   _ _ _ hq hH (lv_sub hl [] rfl)
  · have hq := hq.2 hc
    refine lv_iload_n hx hb dX5_requireKey_4 rfl (lv_at hl 0 rfl) ?_
    refine lv_iconst (v := 5) hx hb dX5_requireKey_5 (by decide) ?_
    refine lv_icmp_lt (tgt := 20) hx hb dX5_requireKey_6 (by decide) (fun hc => ?_) (fun hc => ?_)
    · have hq := hq.1 hc
      exact w_eV hX hr hlk hH ⟨rfl, hq⟩ dX5_requireKey_20
    · have hq := hq.2 hc
      exact s_X5_requireKey_9  C0   _ _ _ hq hH (lv_sub hl [] rfl)
abbrev rm_X5_requireKeyx : Room := { frames := 8, cells := 1, slots := 6, locals := 120 }

set_option maxRecDepth 100000 in
set_option maxHeartbeats 4000000 in
theorem s_X5_requireKeyx_9 {x0 : Int32} {I : wI} {X : String → Prop} (hst : l.stackTraces = false) (hEx : ∀ x ∈ c.exceptionTable.toList, False) (C0 : wCx p m c s args meth cX5_requireKey 1 RX5 none D cs ad b) : ∀  (H : Heap) (locs : List Loc) (ls : Array Slot), v_X5_requireKeyx_9 x0 I X  → wH D cs b G I s H locs → lv_has ls 1 [] → W p l e rm_X5_requireKeyx s m args below meth c H locs 0 0 (vx_MQ below (va_Qv (fun (_ : wI) => False) (wPo D cs b G) (fun q => b ≤ q)) (wXC D cs b G (fun E I' => I' = I ∧ X E)) args s 1 6 (fun q => b ≤ q)) (F0 m 9 ls []) := by
  obtain ⟨hX, hr, hlk, hK, hE⟩ := id C0
  have hx := hX.1
  have hb := hX.2.1
  have hown := hX.2.2.2.1
  have hts := hX.2.2.2.2
  intro  H locs ls hq hH hl
  unfold v_X5_requireKeyx_9 at hq
  exact w_throwW th_X5_302_304_306 hX hst hlk hEx hE hH hl.1 dX5_requireKey_9 dX5_requireKey_12 dX5_requireKey_13 dX5_requireKey_16 dX5_requireKey_19 ⟨Nat.le_of_ble_eq_true rfl, Nat.le_of_ble_eq_true rfl, Nat.le_of_ble_eq_true rfl, Nat.le_of_ble_eq_true rfl⟩ ⟨rfl, hq⟩
set_option maxRecDepth 100000 in
set_option maxHeartbeats 4000000 in
theorem c_X5_requireKeyx {l : Launch} {D : va_G} {cs : wC4} {ad : Nat → Nat} {b : Nat} {G : wG} (hst : l.stackTraces = false) (x0 : Int32) (I : wI) (hp : pre_X5_requireKeyx x0 I) : vx_Met l yX5_requireKey (ws_ yX5_requireKey cX5_requireKey 1 none) rm_X5_requireKeyx (va_Pc [.int x0] (wPr D cs ad b G I)) (va_Qv (fun (_ : wI) => False) (wPo D cs b G) (fun q => b ≤ q)) (wXC D cs b G (fun E I' => I' = I ∧ exc_X5_requireKey x0 I E)) 1 6 (fun q => b ≤ q) := by
  have hq := vc_X5_requireKeyx x0 I hp
  refine w_metx (by decide) (Nat.le_of_ble_eq_true rfl) ?_
  intro p e s m below meth c hX hr hlk hEx hK hE hH ls hl
  have C0 : wCx p m c s _ meth cX5_requireKey 1 RX5 none D cs ad b := ⟨hX, hr, hlk, hK, hE⟩
  have hX : CallFix p m c cX5_requireKey 1 s _ lw_all RX5 := hX
  have hx := hX.1
  have hb := hX.2.1
  have hown := hX.2.2.2.1
  have hts := hX.2.2.2.2
  have hl : lv_has ls 1 [(0, .int x0)] := hl
  unfold v_X5_requireKeyx at hq
  refine lv_iload_n hx hb dX5_requireKey_0 rfl (lv_at hl 0 rfl) ?_
  refine lv_if_lt (tgt := 9) hx hb dX5_requireKey_1 (by decide) (fun hc => ?_) (fun hc => ?_)
  · have hq := hq.1 hc
    exact s_X5_requireKeyx_9 hst hEx C0   _ _ _ hq hH (lv_sub hl [] rfl)
  · have hq := hq.2 hc
    refine lv_iload_n hx hb dX5_requireKey_4 rfl (lv_at hl 0 rfl) ?_
    refine lv_iconst (v := 5) hx hb dX5_requireKey_5 (by decide) ?_
    refine lv_icmp_lt (tgt := 20) hx hb dX5_requireKey_6 (by decide) (fun hc => ?_) (fun hc => ?_)
    · have hq := hq.1 hc
      exact hq.elim
    · have hq := hq.2 hc
      exact s_X5_requireKeyx_9 hst hEx C0   _ _ _ hq hH (lv_sub hl [] rfl)
abbrev rm_X5_moveOf : Room := { frames := 0, cells := 0, slots := 0, locals := 0 }
theorem hd_X5_moveOf : yX5_moveOf.cls = RX5 ∧ yX5_moveOf.cls ≠ "java/lang/invoke/MethodHandle" ∧ yX5_moveOf.cls ≠ "java/lang/invoke/VarHandle" ∧ (parseMethodDescriptor yX5_moveOf.desc).map (fun d => d.parameters.length) = some 2 := by decide +kernel
set_option maxRecDepth 100000 in
set_option maxHeartbeats 4000000 in
theorem s_X5_moveOf_11 {x0 : Int32} {x1 : Int32} {I : wI} {Q : Int32 → Prop} (C0 : wCx p m c s args meth cX5_moveOf 2 RX5 (some .int) D cs ad b) : ∀ (t0 : Int32) (H : Heap) (locs : List Loc) (ls : Array Slot), v_X5_moveOf_11 x0 x1 I Q t0 → wH D cs b G I s H locs → lv_has ls 2 [] → W p l e rm_X5_moveOf s m args below meth c H locs 0 0 (MQ below (va_Qi (fun r I' => I' = I ∧ Q r) (wPo D cs b G) (fun q => b ≤ q)) args s 0 0 (fun q => b ≤ q)) (F0 m 11 ls [.int t0]) := by
  obtain ⟨hX, hr, hlk, hK, hE⟩ := id C0
  have hx := hX.1
  have hb := hX.2.1
  have hown := hX.2.2.2.1
  have hts := hX.2.2.2.2
  intro t0 H locs ls hq hH hl
  unfold v_X5_moveOf_11 at hq
  exact w_eI hX hr hlk hH ⟨rfl, hq⟩ dX5_moveOf_11
set_option maxRecDepth 100000 in
set_option maxHeartbeats 4000000 in
theorem c_X5_moveOf {l : Launch} {D : va_G} {cs : wC4} {ad : Nat → Nat} {b : Nat} {G : wG} (x0 : Int32) (x1 : Int32) (I : wI) (hp : pre_X5_moveOf x0 x1 I) : Met l yX5_moveOf (ws_ yX5_moveOf cX5_moveOf 2 (some .int)) rm_X5_moveOf (va_Pc [.int x0, .int x1] (wPr D cs ad b G I)) (va_Qi (fun r I' => I' = I ∧ post_X5_moveOf x0 x1 I r) (wPo D cs b G) (fun q => b ≤ q)) 0 0 (fun q => b ≤ q) := by
  have hq := vc_X5_moveOf x0 x1 I hp
  refine w_met (by decide) (Nat.le_of_ble_eq_true rfl) ?_
  intro p e s m below meth c hX hr hlk hK hE hH ls hl
  have C0 : wCx p m c s _ meth cX5_moveOf 2 RX5 (some .int) D cs ad b := ⟨hX, hr, hlk, hK, hE⟩
  have hX : CallFix p m c cX5_moveOf 2 s _ lw_all RX5 := hX
  have hx := hX.1
  have hb := hX.2.1
  have hown := hX.2.2.2.1
  have hts := hX.2.2.2.2
  have hl : lv_has ls 2 [(0, .int x0), (1, .int x1)] := hl
  unfold v_X5_moveOf at hq
  refine lv_iload_n hx hb dX5_moveOf_0 rfl (lv_at hl 1 rfl) ?_
  refine lv_if_eq (tgt := 10) hx hb dX5_moveOf_1 (by decide) (fun hc => ?_) (fun hc => ?_)
  · have hq := hq.1 hc
    refine lv_iload_n hx hb dX5_moveOf_10 rfl (lv_at hl 0 rfl) ?_
    exact s_X5_moveOf_11  C0  x0 _ _ _ hq hH (lv_sub hl [] rfl)
  · have hq := hq.2 hc
    refine lv_iconst (v := 5) hx hb dX5_moveOf_4 (by decide) ?_
    refine lv_iload_n hx hb dX5_moveOf_5 rfl (lv_at hl 0 rfl) ?_
    refine lv_iadd hx hb dX5_moveOf_6 ?_
    refine lv_goto (tgt := 11) hx hb dX5_moveOf_7 (by decide) ?_
    exact s_X5_moveOf_11  C0  ((5 : Int32) + x0) _ _ _ hq hH (lv_sub hl [] rfl)
abbrev rm_X5_keyOf : Room := { frames := 0, cells := 0, slots := 0, locals := 0 }
theorem hd_X5_keyOf : yX5_keyOf.cls = RX5 ∧ yX5_keyOf.cls ≠ "java/lang/invoke/MethodHandle" ∧ yX5_keyOf.cls ≠ "java/lang/invoke/VarHandle" ∧ (parseMethodDescriptor yX5_keyOf.desc).map (fun d => d.parameters.length) = some 1 := by decide +kernel
set_option maxRecDepth 100000 in
set_option maxHeartbeats 4000000 in
theorem s_X5_keyOf_12 {x0 : Int32} {I : wI} {Q : Int32 → Prop} (C0 : wCx p m c s args meth cX5_keyOf 1 RX5 (some .int) D cs ad b) : ∀ (t0 : Int32) (H : Heap) (locs : List Loc) (ls : Array Slot), v_X5_keyOf_12 x0 I Q t0 → wH D cs b G I s H locs → lv_has ls 1 [] → W p l e rm_X5_keyOf s m args below meth c H locs 0 0 (MQ below (va_Qi (fun r I' => I' = I ∧ Q r) (wPo D cs b G) (fun q => b ≤ q)) args s 0 0 (fun q => b ≤ q)) (F0 m 12 ls [.int t0]) := by
  obtain ⟨hX, hr, hlk, hK, hE⟩ := id C0
  have hx := hX.1
  have hb := hX.2.1
  have hown := hX.2.2.2.1
  have hts := hX.2.2.2.2
  intro t0 H locs ls hq hH hl
  unfold v_X5_keyOf_12 at hq
  exact w_eI hX hr hlk hH ⟨rfl, hq⟩ dX5_keyOf_12
set_option maxRecDepth 100000 in
set_option maxHeartbeats 4000000 in
theorem c_X5_keyOf {l : Launch} {D : va_G} {cs : wC4} {ad : Nat → Nat} {b : Nat} {G : wG} (x0 : Int32) (I : wI) (hp : pre_X5_keyOf x0 I) : Met l yX5_keyOf (ws_ yX5_keyOf cX5_keyOf 1 (some .int)) rm_X5_keyOf (va_Pc [.int x0] (wPr D cs ad b G I)) (va_Qi (fun r I' => I' = I ∧ post_X5_keyOf x0 I r) (wPo D cs b G) (fun q => b ≤ q)) 0 0 (fun q => b ≤ q) := by
  have hq := vc_X5_keyOf x0 I hp
  refine w_met (by decide) (Nat.le_of_ble_eq_true rfl) ?_
  intro p e s m below meth c hX hr hlk hK hE hH ls hl
  have C0 : wCx p m c s _ meth cX5_keyOf 1 RX5 (some .int) D cs ad b := ⟨hX, hr, hlk, hK, hE⟩
  have hX : CallFix p m c cX5_keyOf 1 s _ lw_all RX5 := hX
  have hx := hX.1
  have hb := hX.2.1
  have hown := hX.2.2.2.1
  have hts := hX.2.2.2.2
  have hl : lv_has ls 1 [(0, .int x0)] := hl
  unfold v_X5_keyOf at hq
  refine lv_iload_n hx hb dX5_keyOf_0 rfl (lv_at hl 0 rfl) ?_
  refine lv_iconst (v := 5) hx hb dX5_keyOf_1 (by decide) ?_
  refine lv_icmp_lt (tgt := 11) hx hb dX5_keyOf_2 (by decide) (fun hc => ?_) (fun hc => ?_)
  · have hq := hq.1 hc
    refine lv_iload_n hx hb dX5_keyOf_11 rfl (lv_at hl 0 rfl) ?_
    exact s_X5_keyOf_12  C0  x0 _ _ _ hq hH (lv_sub hl [] rfl)
  · have hq := hq.2 hc
    refine lv_iload_n hx hb dX5_keyOf_5 rfl (lv_at hl 0 rfl) ?_
    refine lv_iconst (v := 5) hx hb dX5_keyOf_6 (by decide) ?_
    refine lv_isub hx hb dX5_keyOf_7 ?_
    refine lv_goto (tgt := 12) hx hb dX5_keyOf_8 (by decide) ?_
    exact s_X5_keyOf_12  C0  (x0 - (5 : Int32)) _ _ _ hq hH (lv_sub hl [] rfl)
abbrev rm_X1_maskOf : Room := { frames := 0, cells := 0, slots := 0, locals := 0 }
theorem hd_X1_maskOf : yX1_maskOf.cls = RX1 ∧ yX1_maskOf.cls ≠ "java/lang/invoke/MethodHandle" ∧ yX1_maskOf.cls ≠ "java/lang/invoke/VarHandle" ∧ (parseMethodDescriptor yX1_maskOf.desc).map (fun d => d.parameters.length) = some 1 := by decide +kernel
set_option maxRecDepth 100000 in
set_option maxHeartbeats 4000000 in
theorem s_X1_maskOf_19 {k : Nat} {x1 : Int32} {I : wI} {Q : Int32 → Prop} (hs : wSh k = (0, 1)) (C0 : wCx p m c s args meth cX1_maskOf 2 RX1 (some .int) D cs ad b) : ∀ (t0 : Int32) (H : Heap) (locs : List Loc) (ls : Array Slot), v_X1_maskOf_19 k x1 I Q t0 → wH D cs b G I s H locs → lv_has ls 2 [] → W p l e rm_X1_maskOf s m args below meth c H locs 0 0 (MQ below (va_Qi (fun r I' => I' = I ∧ Q r) (wPo D cs b G) (fun q => b ≤ q)) args s 0 0 (fun q => b ≤ q)) (F0 m 19 ls [.int t0]) := by
  obtain ⟨hX, hr, hlk, hK, hE⟩ := id C0
  have hx := hX.1
  have hb := hX.2.1
  have hown := hX.2.2.2.1
  have hts := hX.2.2.2.2
  intro t0 H locs ls hq hH hl
  unfold v_X1_maskOf_19 at hq
  exact w_eI hX hr hlk hH ⟨rfl, hq⟩ dX1_maskOf_19
set_option maxRecDepth 100000 in
set_option maxHeartbeats 4000000 in
theorem s_X1_maskOf_18 {k : Nat} {x1 : Int32} {I : wI} {Q : Int32 → Prop} (hs : wSh k = (0, 1)) (C0 : wCx p m c s args meth cX1_maskOf 2 RX1 (some .int) D cs ad b) : ∀  (H : Heap) (locs : List Loc) (ls : Array Slot), v_X1_maskOf_18 k x1 I Q  → wH D cs b G I s H locs → lv_has ls 2 [] → W p l e rm_X1_maskOf s m args below meth c H locs 0 0 (MQ below (va_Qi (fun r I' => I' = I ∧ Q r) (wPo D cs b G) (fun q => b ≤ q)) args s 0 0 (fun q => b ≤ q)) (F0 m 18 ls []) := by
  obtain ⟨hX, hr, hlk, hK, hE⟩ := id C0
  have hx := hX.1
  have hb := hX.2.1
  have hown := hX.2.2.2.1
  have hts := hX.2.2.2.2
  intro  H locs ls hq hH hl
  unfold v_X1_maskOf_18 at hq
  refine lv_iconst (v := 0) hx hb dX1_maskOf_18 (by decide) ?_
  exact s_X1_maskOf_19 hs C0  (0 : Int32) _ _ _ hq hH (lv_sub hl [] rfl)
set_option maxRecDepth 100000 in
set_option maxHeartbeats 4000000 in
theorem c_X1_maskOf {l : Launch} {D : va_G} {cs : wC4} {ad : Nat → Nat} {b : Nat} {G : wG} {k : Nat} (hs : wSh k = (0, 1)) (x1 : Int32) (I : wI) (hp : pre_X1_maskOf k x1 I) : Met l yX1_maskOf (ws_ yX1_maskOf cX1_maskOf 2 (some .int)) rm_X1_maskOf (va_Pc [.ref (G.1 k), .int x1] (wPr D cs ad b G I)) (va_Qi (fun r I' => I' = I ∧ post_X1_maskOf k x1 I r) (wPo D cs b G) (fun q => b ≤ q)) 0 0 (fun q => b ≤ q) := by
  have hq := vc_X1_maskOf k x1 I hp
  refine w_met (by decide) (Nat.le_of_ble_eq_true rfl) ?_
  intro p e s m below meth c hX hr hlk hK hE hH ls hl
  have C0 : wCx p m c s _ meth cX1_maskOf 2 RX1 (some .int) D cs ad b := ⟨hX, hr, hlk, hK, hE⟩
  have hX : CallFix p m c cX1_maskOf 2 s _ lw_all RX1 := hX
  have hx := hX.1
  have hb := hX.2.1
  have hown := hX.2.2.2.1
  have hts := hX.2.2.2.2
  have hl : lv_has ls 2 [(0, .ref (G.1 k)), (1, .int x1)] := hl
  unfold v_X1_maskOf at hq
  refine lv_iload_n hx hb dX1_maskOf_0 rfl (lv_at hl 1 rfl) ?_
  refine lv_if_lt (tgt := 18) hx hb dX1_maskOf_1 (by decide) (fun hc => ?_) (fun hc => ?_)
  · have hq := hq.1 hc
    exact s_X1_maskOf_18 hs C0   _ _ _ hq hH (lv_sub hl [] rfl)
  · have hq := hq.2 hc
    refine lv_iload_n hx hb dX1_maskOf_4 rfl (lv_at hl 1 rfl) ?_
    refine lv_iconst (v := 5) hx hb dX1_maskOf_5 (by decide) ?_
    refine lv_icmp_ge (tgt := 18) hx hb dX1_maskOf_6 (by decide) (fun hc => ?_) (fun hc => ?_)
    · have hq := hq.1 hc
      exact s_X1_maskOf_18 hs C0   _ _ _ hq hH (lv_sub hl [] rfl)
    · have hq := hq.2 hc
      refine lv_aload_n hx hb dX1_maskOf_9 rfl (lv_at hl 0 rfl) ?_
      refine w_getr hX hK hH ck1 hs 0 1 (k + 1) fr1_0 rfl q1_49 dX1_maskOf_10 ?_
      refine lv_iload_n hx hb dX1_maskOf_13 rfl (lv_at hl 1 rfl) ?_
      obtain ⟨hc, hq⟩ := hq
      refine w_iald hX hK hH (sf1_0 hs) hc dX1_maskOf_14 ?_
      refine lv_goto (tgt := 19) hx hb dX1_maskOf_15 (by decide) ?_
      exact s_X1_maskOf_19 hs C0  (I (k + 1) (x1).toNatClampNeg) _ _ _ hq hH (lv_sub hl [] rfl)
abbrev rm_X3_allows : Room := { frames := 1, cells := 0, slots := 0, locals := 21 }
theorem hd_X3_allows : yX3_allows.cls = RX3 ∧ yX3_allows.cls ≠ "java/lang/invoke/MethodHandle" ∧ yX3_allows.cls ≠ "java/lang/invoke/VarHandle" ∧ (parseMethodDescriptor yX3_allows.desc).map (fun d => d.parameters.length) = some 1 := by decide +kernel
set_option maxRecDepth 100000 in
set_option maxHeartbeats 4000000 in
theorem s_X3_allows_24 {k : Nat} {x1 : Int32} {I : wI} {Q : Int32 → Prop} (hs : wSh k = (0, 3)) (C0 : wCx p m c s args meth cX3_allows 2 RX3 (some .boolean) D cs ad b) : ∀ (t0 : Int32) (H : Heap) (locs : List Loc) (ls : Array Slot), v_X3_allows_24 k x1 I Q t0 → wH D cs b G I s H locs → lv_has ls 2 [] → W p l e rm_X3_allows s m args below meth c H locs 0 0 (MQ below (va_Qi (fun r I' => I' = I ∧ Q r) (wPo D cs b G) (fun q => b ≤ q)) args s 0 0 (fun q => b ≤ q)) (F0 m 24 ls [.int t0]) := by
  obtain ⟨hX, hr, hlk, hK, hE⟩ := id C0
  have hx := hX.1
  have hb := hX.2.1
  have hown := hX.2.2.2.1
  have hts := hX.2.2.2.2
  intro t0 H locs ls hq hH hl
  unfold v_X3_allows_24 at hq
  obtain ⟨hz, hq⟩ := hq
  exact w_eZ hz hX hr hlk hH ⟨rfl, hq⟩ dX3_allows_24
set_option maxRecDepth 100000 in
set_option maxHeartbeats 4000000 in
theorem c_X3_allows {l : Launch} {D : va_G} {cs : wC4} {ad : Nat → Nat} {b : Nat} {G : wG} {k : Nat} (hs : wSh k = (0, 3)) (x1 : Int32) (I : wI) (hp : pre_X3_allows k x1 I) : Met l yX3_allows (ws_ yX3_allows cX3_allows 2 (some .boolean)) rm_X3_allows (va_Pc [.ref (G.1 k), .int x1] (wPr D cs ad b G I)) (va_Qi (fun r I' => I' = I ∧ post_X3_allows k x1 I r) (wPo D cs b G) (fun q => b ≤ q)) 0 0 (fun q => b ≤ q) := by
  have hq := vc_X3_allows k x1 I hp
  refine w_met (by decide) (Nat.le_of_ble_eq_true rfl) ?_
  intro p e s m below meth c hX hr hlk hK hE hH ls hl
  have C0 : wCx p m c s _ meth cX3_allows 2 RX3 (some .boolean) D cs ad b := ⟨hX, hr, hlk, hK, hE⟩
  have hX : CallFix p m c cX3_allows 2 s _ lw_all RX3 := hX
  have hx := hX.1
  have hb := hX.2.1
  have hown := hX.2.2.2.1
  have hts := hX.2.2.2.2
  have hl : lv_has ls 2 [(0, .ref (G.1 k)), (1, .int x1)] := hl
  unfold v_X3_allows at hq
  refine lv_aload_n hx hb dX3_allows_0 rfl (lv_at hl 0 rfl) ?_
  refine w_getr hX hK hH ck3 hs 1 4 (k + 4) fr3_1 rfl q1_59 dX3_allows_1 ?_
  refine lv_iload_n hx hb dX3_allows_4 rfl (lv_at hl 1 rfl) ?_
  obtain ⟨hp, hq⟩ := hq
  refine w_cIp hH (w_rSN (As := [.int x1]) (rest := [.ref (G.1 (k + 4))]) hX hK hE hH (c_X5_keyOf  _ _ hp) qn2_209 q2_169 q1_1 q2_170 hd_X5_keyOf.2 ⟨Nat.le_of_ble_eq_true rfl, Nat.le_of_ble_eq_true rfl⟩ ⟨rfl, rfl⟩ rfl hl.1 rfl (Nat.le_of_ble_eq_true rfl) dX3_allows_5 ⟨Nat.zero_le _, Nat.zero_le _⟩) (fun r1  H locs hpo hH => ?_)
  have hq := hq r1  hpo
  obtain ⟨hp, hq⟩ := hq
  refine w_cIp hH (w_rV (As := [.int r1]) (rest := []) hX hK hE hH (c_X1_maskOf (sf3_1 hs) _ _ hp) ck1 (sf3_1 hs) q2_210 q2_146 q2_147 q1_4 q2_148 hd_X1_maskOf ⟨Nat.le_of_ble_eq_true rfl, Nat.le_of_ble_eq_true rfl⟩ ⟨rfl, rfl⟩ rfl hl.1 rfl (Nat.le_of_ble_eq_true rfl) dX3_allows_8 ⟨Nat.zero_le _, Nat.zero_le _⟩) (fun r2  H locs hpo hH => ?_)
  have hq := hq r2  hpo
  refine lv_aload_n hx hb dX3_allows_11 rfl (lv_at hl 0 rfl) ?_
  refine w_geti hX hK hH ck3 hs 4 fi3_4 q1_68 dX3_allows_12 ?_
  refine lv_iand hx hb dX3_allows_15 ?_
  refine lv_if_ne (tgt := 23) hx hb dX3_allows_16 (by decide) (fun hc => ?_) (fun hc => ?_)
  · have hq := hq.1 hc
    refine lv_iconst (v := 0) hx hb dX3_allows_23 (by decide) ?_
    exact s_X3_allows_24 hs C0  (0 : Int32) _ _ _ hq hH (lv_sub hl [] rfl)
  · have hq := hq.2 hc
    refine lv_iconst (v := 1) hx hb dX3_allows_19 (by decide) ?_
    refine lv_goto (tgt := 24) hx hb dX3_allows_20 (by decide) ?_
    exact s_X3_allows_24 hs C0  (1 : Int32) _ _ _ hq hH (lv_sub hl [] rfl)
abbrev rm_X5_dropOldest : Room := { frames := 0, cells := 0, slots := 0, locals := 0 }
theorem hd_X5_dropOldest : yX5_dropOldest.cls = RX5 ∧ yX5_dropOldest.cls ≠ "java/lang/invoke/MethodHandle" ∧ yX5_dropOldest.cls ≠ "java/lang/invoke/VarHandle" ∧ (parseMethodDescriptor yX5_dropOldest.desc).map (fun d => d.parameters.length) = some 0 := by decide +kernel
set_option maxRecDepth 100000 in
set_option maxHeartbeats 4000000 in
theorem s_X5_dropOldest_9 {Q : wI → Prop} (C0 : wCx p m c s args meth cX5_dropOldest 3 RX5 none D cs ad b) : ∀ (f : Nat) (v1 : Int32) (v2 : Int32) (I : wI) (H : Heap) (locs : List Loc) (ls : Array Slot), v_X5_dropOldest_9 Q f v1 v2 I → wH D cs b G I s H locs → lv_has ls 3 [(0, .ref (G.1 0)), (1, .ref (G.1 (wSv v1))), (2, .int v2)] → W p l e rm_X5_dropOldest s m args below meth c H locs 0 0 (MQ below (va_Qv (Q) (wPo D cs b G) (fun q => b ≤ q)) args s 0 0 (fun q => b ≤ q)) (F0 m 9 ls []) := by
  obtain ⟨hX, hr, hlk, hK, hE⟩ := id C0
  have hx := hX.1
  have hb := hX.2.1
  have hown := hX.2.2.2.1
  have hts := hX.2.2.2.2
  intro f
  induction f with
  | zero =>
    intro v1 v2 I H locs ls hq
    exact hq.elim
  | succ f hK9 =>
    intro v1 v2 I H locs ls hq hH hl
    have hq : g_X5_dropOldest_9 Q (v_X5_dropOldest_9 Q f) v1 v2 I := hq
    unfold g_X5_dropOldest_9 at hq
    refine lv_iload_n hx hb dX5_dropOldest_9 rfl (lv_at hl 2 rfl) ?_
    refine lv_bipush (v := 6) hx hb dX5_dropOldest_10 (by decide) ?_
    refine lv_icmp_ge (tgt := 35) hx hb dX5_dropOldest_12 (by decide) (fun hc => ?_) (fun hc => ?_)
    · have hq := hq.1 hc
      refine lv_aload_n hx hb dX5_dropOldest_35 rfl (lv_at hl 0 rfl) ?_
      refine w_getr hX hK hH ck5 sh0 3 23 23 fr5_3 rfl q1_175 dX5_dropOldest_36 ?_
      refine lv_iconst (v := 5) hx hb dX5_dropOldest_39 (by decide) ?_
      refine lv_aload_n hx hb dX5_dropOldest_40 rfl (lv_at hl 1 rfl) ?_
      obtain ⟨hc, hq⟩ := hq
      refine w_aast hX hK hH (sf5_3 sh0) hc.1 (wSv_sh hc.2) dX5_dropOldest_41 (fun I1 H locs hI hH => ?_)
      have hq := hq I1 hI
      refine lv_aload_n hx hb dX5_dropOldest_42 rfl (lv_at hl 0 rfl) ?_
      refine lv_iconst (v := 5) hx hb dX5_dropOldest_43 (by decide) ?_
      refine w_puti hX hK hH ck5 sh0 4 fw5_4 q1_176 dX5_dropOldest_44 (fun I2 H locs hI hH => ?_)
      have hq := hq I2 hI
      exact w_eV hX hr hlk hH hq dX5_dropOldest_47
    · have hq := hq.2 hc
      refine lv_aload_n hx hb dX5_dropOldest_15 rfl (lv_at hl 0 rfl) ?_
      refine w_getr hX hK hH ck5 sh0 3 23 23 fr5_3 rfl q1_175 dX5_dropOldest_16 ?_
      refine lv_iload_n hx hb dX5_dropOldest_19 rfl (lv_at hl 2 rfl) ?_
      refine lv_iconst (v := 1) hx hb dX5_dropOldest_20 (by decide) ?_
      refine lv_isub hx hb dX5_dropOldest_21 ?_
      refine lv_aload_n hx hb dX5_dropOldest_22 rfl (lv_at hl 0 rfl) ?_
      refine w_getr hX hK hH ck5 sh0 3 23 23 fr5_3 rfl q1_175 dX5_dropOldest_23 ?_
      refine lv_iload_n hx hb dX5_dropOldest_26 rfl (lv_at hl 2 rfl) ?_
      obtain ⟨hc, hq⟩ := hq
      refine w_aald hX hK hH (sf5_3 sh0) hc dX5_dropOldest_27 ?_
      obtain ⟨hc, hq⟩ := hq
      refine w_aast hX hK hH (sf5_3 sh0) hc.1 (wSv_sh hc.2) dX5_dropOldest_28 (fun I3 H locs hI hH => ?_)
      have hq := hq I3 hI
      refine lv_iinc (v := (v2 + (1 : Int32))) (lv' := [(2, .int (v2 + (1 : Int32))), (0, .ref (G.1 0)), (1, .ref (G.1 (wSv v1)))]) hx hb dX5_dropOldest_29 hl (k := 2) rfl rfl (by decide) rfl (fun ls hl => ?_)
      refine lv_goto (tgt := 9) hx hb dX5_dropOldest_32 (by decide) ?_
      exact hK9 v1 (v2 + (1 : Int32)) _ _ _ _ hq hH (lv_sub hl [1, 2, 0] rfl)
set_option maxRecDepth 100000 in
set_option maxHeartbeats 4000000 in
theorem c_X5_dropOldest {l : Launch} {D : va_G} {cs : wC4} {ad : Nat → Nat} {b : Nat} {G : wG}  (I : wI) (hp : pre_X5_dropOldest  I) : Met l yX5_dropOldest (ws_ yX5_dropOldest cX5_dropOldest 3 none) rm_X5_dropOldest (va_Pc [.ref (G.1 0)] (wPr D cs ad b G I)) (va_Qv (fun I' => post_X5_dropOldest  I I') (wPo D cs b G) (fun q => b ≤ q)) 0 0 (fun q => b ≤ q) := by
  have hq := vc_X5_dropOldest  I hp
  refine w_met (by decide) (Nat.le_of_ble_eq_true rfl) ?_
  intro p e s m below meth c hX hr hlk hK hE hH ls hl
  have C0 : wCx p m c s _ meth cX5_dropOldest 3 RX5 none D cs ad b := ⟨hX, hr, hlk, hK, hE⟩
  have hX : CallFix p m c cX5_dropOldest 3 s _ lw_all RX5 := hX
  have hx := hX.1
  have hb := hX.2.1
  have hown := hX.2.2.2.1
  have hts := hX.2.2.2.2
  have hl : lv_has ls 3 [(0, .ref (G.1 0))] := hl
  unfold v_X5_dropOldest at hq
  refine lv_aload_n hx hb dX5_dropOldest_0 rfl (lv_at hl 0 rfl) ?_
  refine w_getr hX hK hH ck5 sh0 3 23 23 fr5_3 rfl q1_175 dX5_dropOldest_1 ?_
  refine lv_iconst (v := 0) hx hb dX5_dropOldest_4 (by decide) ?_
  obtain ⟨hc, hq⟩ := hq
  refine w_aald hX hK hH (sf5_3 sh0) hc dX5_dropOldest_5 ?_
  refine lv_astore_n (lv' := [(1, .ref (G.1 (wSv (I 23 ((0 : Int32)).toNatClampNeg)))), (0, .ref (G.1 0))]) hx hb dX5_dropOldest_6 rfl hl (by decide) rfl (fun ls hl => ?_)
  refine lv_iconst (v := 1) hx hb dX5_dropOldest_7 (by decide) ?_
  refine lv_istore_n (lv' := [(2, .int (1 : Int32)), (1, .ref (G.1 (wSv (I 23 ((0 : Int32)).toNatClampNeg)))), (0, .ref (G.1 0))]) hx hb dX5_dropOldest_8 rfl hl (by decide) rfl (fun ls hl => ?_)
  obtain ⟨f, hq⟩ := hq
  exact s_X5_dropOldest_9  C0  f (I 23 ((0 : Int32)).toNatClampNeg) (1 : Int32) _ _ _ _ hq hH (lv_sub hl [2, 1, 0] rfl)
abbrev rm_X0_copyFrom : Room := { frames := 0, cells := 0, slots := 0, locals := 0 }
theorem hd_X0_copyFrom : yX0_copyFrom.cls = RX0 ∧ yX0_copyFrom.cls ≠ "java/lang/invoke/MethodHandle" ∧ yX0_copyFrom.cls ≠ "java/lang/invoke/VarHandle" ∧ (parseMethodDescriptor yX0_copyFrom.desc).map (fun d => d.parameters.length) = some 1 := by decide +kernel
set_option maxRecDepth 100000 in
set_option maxHeartbeats 4000000 in
theorem s_X0_copyFrom_2 {k : Nat} {k1 : Nat} {Q : wI → Prop} (hs : wSh k = (0, 0)) (hs1 : wSh k1 = (0, 0)) (C0 : wCx p m c s args meth cX0_copyFrom 3 RX0 none D cs ad b) : ∀ (f : Nat) (v2 : Int32) (I : wI) (H : Heap) (locs : List Loc) (ls : Array Slot), v_X0_copyFrom_2 k k1 Q f v2 I → wH D cs b G I s H locs → lv_has ls 3 [(0, .ref (G.1 k)), (1, .ref (G.1 k1)), (2, .int v2)] → W p l e rm_X0_copyFrom s m args below meth c H locs 0 0 (MQ below (va_Qv (Q) (wPo D cs b G) (fun q => b ≤ q)) args s 0 0 (fun q => b ≤ q)) (F0 m 2 ls []) := by
  obtain ⟨hX, hr, hlk, hK, hE⟩ := id C0
  have hx := hX.1
  have hb := hX.2.1
  have hown := hX.2.2.2.1
  have hts := hX.2.2.2.2
  intro f
  induction f with
  | zero =>
    intro v2 I H locs ls hq
    exact hq.elim
  | succ f hK2 =>
    intro v2 I H locs ls hq hH hl
    have hq : g_X0_copyFrom_2 k k1 Q (v_X0_copyFrom_2 k k1 Q f) v2 I := hq
    unfold g_X0_copyFrom_2 at hq
    refine lv_iload_n hx hb dX0_copyFrom_2 rfl (lv_at hl 2 rfl) ?_
    refine lv_bipush (v := 6) hx hb dX0_copyFrom_3 (by decide) ?_
    refine lv_icmp_ge (tgt := 38) hx hb dX0_copyFrom_5 (by decide) (fun hc => ?_) (fun hc => ?_)
    · have hq := hq.1 hc
      exact w_eV hX hr hlk hH hq dX0_copyFrom_38
    · have hq := hq.2 hc
      refine lv_aload_n hx hb dX0_copyFrom_8 rfl (lv_at hl 0 rfl) ?_
      refine w_getr hX hK hH ck0 hs 0 1 (k + 1) fr0_0 rfl q1_35 dX0_copyFrom_9 ?_
      refine lv_iload_n hx hb dX0_copyFrom_12 rfl (lv_at hl 2 rfl) ?_
      refine lv_aload_n hx hb dX0_copyFrom_13 rfl (lv_at hl 1 rfl) ?_
      refine w_getr hX hK hH ck0 hs1 0 1 (k1 + 1) fr0_0 rfl q1_35 dX0_copyFrom_14 ?_
      refine lv_iload_n hx hb dX0_copyFrom_17 rfl (lv_at hl 2 rfl) ?_
      obtain ⟨hc, hq⟩ := hq
      refine w_iald hX hK hH (sf0_0 hs1) hc dX0_copyFrom_18 ?_
      obtain ⟨hc, hq⟩ := hq
      refine w_iast hX hK hH (sf0_0 hs) hc dX0_copyFrom_19 (fun I1 H locs hI hH => ?_)
      have hq := hq I1 hI
      refine lv_aload_n hx hb dX0_copyFrom_20 rfl (lv_at hl 0 rfl) ?_
      refine w_getr hX hK hH ck0 hs 1 2 (k + 2) fr0_1 rfl q1_36 dX0_copyFrom_21 ?_
      refine lv_iload_n hx hb dX0_copyFrom_24 rfl (lv_at hl 2 rfl) ?_
      refine lv_aload_n hx hb dX0_copyFrom_25 rfl (lv_at hl 1 rfl) ?_
      refine w_getr hX hK hH ck0 hs1 1 2 (k1 + 2) fr0_1 rfl q1_36 dX0_copyFrom_26 ?_
      refine lv_iload_n hx hb dX0_copyFrom_29 rfl (lv_at hl 2 rfl) ?_
      obtain ⟨hc, hq⟩ := hq
      refine w_iald hX hK hH (sf0_1 hs1) hc dX0_copyFrom_30 ?_
      obtain ⟨hc, hq⟩ := hq
      refine w_iast hX hK hH (sf0_1 hs) hc dX0_copyFrom_31 (fun I2 H locs hI hH => ?_)
      have hq := hq I2 hI
      refine lv_iinc (v := (v2 + (1 : Int32))) (lv' := [(2, .int (v2 + (1 : Int32))), (0, .ref (G.1 k)), (1, .ref (G.1 k1))]) hx hb dX0_copyFrom_32 hl (k := 2) rfl rfl (by decide) rfl (fun ls hl => ?_)
      refine lv_goto (tgt := 2) hx hb dX0_copyFrom_35 (by decide) ?_
      exact hK2 (v2 + (1 : Int32)) _ _ _ _ hq hH (lv_sub hl [1, 2, 0] rfl)
set_option maxRecDepth 100000 in
set_option maxHeartbeats 4000000 in
theorem c_X0_copyFrom {l : Launch} {D : va_G} {cs : wC4} {ad : Nat → Nat} {b : Nat} {G : wG} {k : Nat} {k1 : Nat} (hs : wSh k = (0, 0)) (hs1 : wSh k1 = (0, 0))  (I : wI) (hp : pre_X0_copyFrom k k1 I) : Met l yX0_copyFrom (ws_ yX0_copyFrom cX0_copyFrom 3 none) rm_X0_copyFrom (va_Pc [.ref (G.1 k), .ref (G.1 k1)] (wPr D cs ad b G I)) (va_Qv (fun I' => post_X0_copyFrom k k1 I I') (wPo D cs b G) (fun q => b ≤ q)) 0 0 (fun q => b ≤ q) := by
  have hq := vc_X0_copyFrom k k1 I hp
  refine w_met (by decide) (Nat.le_of_ble_eq_true rfl) ?_
  intro p e s m below meth c hX hr hlk hK hE hH ls hl
  have C0 : wCx p m c s _ meth cX0_copyFrom 3 RX0 none D cs ad b := ⟨hX, hr, hlk, hK, hE⟩
  have hX : CallFix p m c cX0_copyFrom 3 s _ lw_all RX0 := hX
  have hx := hX.1
  have hb := hX.2.1
  have hown := hX.2.2.2.1
  have hts := hX.2.2.2.2
  have hl : lv_has ls 3 [(0, .ref (G.1 k)), (1, .ref (G.1 k1))] := hl
  unfold v_X0_copyFrom at hq
  refine lv_iconst (v := 0) hx hb dX0_copyFrom_0 (by decide) ?_
  refine lv_istore_n (lv' := [(2, .int (0 : Int32)), (0, .ref (G.1 k)), (1, .ref (G.1 k1))]) hx hb dX0_copyFrom_1 rfl hl (by decide) rfl (fun ls hl => ?_)
  obtain ⟨f, hq⟩ := hq
  exact s_X0_copyFrom_2 hs hs1 C0  f (0 : Int32) _ _ _ _ hq hH (lv_sub hl [1, 2, 0] rfl)
abbrev rm_X1_copyFrom : Room := { frames := 0, cells := 0, slots := 0, locals := 0 }
theorem hd_X1_copyFrom : yX1_copyFrom.cls = RX1 ∧ yX1_copyFrom.cls ≠ "java/lang/invoke/MethodHandle" ∧ yX1_copyFrom.cls ≠ "java/lang/invoke/VarHandle" ∧ (parseMethodDescriptor yX1_copyFrom.desc).map (fun d => d.parameters.length) = some 1 := by decide +kernel
set_option maxRecDepth 100000 in
set_option maxHeartbeats 4000000 in
theorem s_X1_copyFrom_2 {k : Nat} {k1 : Nat} {Q : wI → Prop} (hs : wSh k = (0, 1)) (hs1 : wSh k1 = (0, 1)) (C0 : wCx p m c s args meth cX1_copyFrom 3 RX1 none D cs ad b) : ∀ (f : Nat) (v2 : Int32) (I : wI) (H : Heap) (locs : List Loc) (ls : Array Slot), v_X1_copyFrom_2 k k1 Q f v2 I → wH D cs b G I s H locs → lv_has ls 3 [(0, .ref (G.1 k)), (1, .ref (G.1 k1)), (2, .int v2)] → W p l e rm_X1_copyFrom s m args below meth c H locs 0 0 (MQ below (va_Qv (Q) (wPo D cs b G) (fun q => b ≤ q)) args s 0 0 (fun q => b ≤ q)) (F0 m 2 ls []) := by
  obtain ⟨hX, hr, hlk, hK, hE⟩ := id C0
  have hx := hX.1
  have hb := hX.2.1
  have hown := hX.2.2.2.1
  have hts := hX.2.2.2.2
  intro f
  induction f with
  | zero =>
    intro v2 I H locs ls hq
    exact hq.elim
  | succ f hK2 =>
    intro v2 I H locs ls hq hH hl
    have hq : g_X1_copyFrom_2 k k1 Q (v_X1_copyFrom_2 k k1 Q f) v2 I := hq
    unfold g_X1_copyFrom_2 at hq
    refine lv_iload_n hx hb dX1_copyFrom_2 rfl (lv_at hl 2 rfl) ?_
    refine lv_iconst (v := 5) hx hb dX1_copyFrom_3 (by decide) ?_
    refine lv_icmp_ge (tgt := 37) hx hb dX1_copyFrom_4 (by decide) (fun hc => ?_) (fun hc => ?_)
    · have hq := hq.1 hc
      exact w_eV hX hr hlk hH hq dX1_copyFrom_37
    · have hq := hq.2 hc
      refine lv_aload_n hx hb dX1_copyFrom_7 rfl (lv_at hl 0 rfl) ?_
      refine w_getr hX hK hH ck1 hs 0 1 (k + 1) fr1_0 rfl q1_49 dX1_copyFrom_8 ?_
      refine lv_iload_n hx hb dX1_copyFrom_11 rfl (lv_at hl 2 rfl) ?_
      refine lv_aload_n hx hb dX1_copyFrom_12 rfl (lv_at hl 1 rfl) ?_
      refine w_getr hX hK hH ck1 hs1 0 1 (k1 + 1) fr1_0 rfl q1_49 dX1_copyFrom_13 ?_
      refine lv_iload_n hx hb dX1_copyFrom_16 rfl (lv_at hl 2 rfl) ?_
      obtain ⟨hc, hq⟩ := hq
      refine w_iald hX hK hH (sf1_0 hs1) hc dX1_copyFrom_17 ?_
      obtain ⟨hc, hq⟩ := hq
      refine w_iast hX hK hH (sf1_0 hs) hc dX1_copyFrom_18 (fun I1 H locs hI hH => ?_)
      have hq := hq I1 hI
      refine lv_aload_n hx hb dX1_copyFrom_19 rfl (lv_at hl 0 rfl) ?_
      refine w_getr hX hK hH ck1 hs 1 2 (k + 2) fr1_1 rfl q1_50 dX1_copyFrom_20 ?_
      refine lv_iload_n hx hb dX1_copyFrom_23 rfl (lv_at hl 2 rfl) ?_
      refine lv_aload_n hx hb dX1_copyFrom_24 rfl (lv_at hl 1 rfl) ?_
      refine w_getr hX hK hH ck1 hs1 1 2 (k1 + 2) fr1_1 rfl q1_50 dX1_copyFrom_25 ?_
      refine lv_iload_n hx hb dX1_copyFrom_28 rfl (lv_at hl 2 rfl) ?_
      obtain ⟨hc, hq⟩ := hq
      refine w_iald hX hK hH (sf1_1 hs1) hc dX1_copyFrom_29 ?_
      obtain ⟨hc, hq⟩ := hq
      refine w_iast hX hK hH (sf1_1 hs) hc dX1_copyFrom_30 (fun I2 H locs hI hH => ?_)
      have hq := hq I2 hI
      refine lv_iinc (v := (v2 + (1 : Int32))) (lv' := [(2, .int (v2 + (1 : Int32))), (0, .ref (G.1 k)), (1, .ref (G.1 k1))]) hx hb dX1_copyFrom_31 hl (k := 2) rfl rfl (by decide) rfl (fun ls hl => ?_)
      refine lv_goto (tgt := 2) hx hb dX1_copyFrom_34 (by decide) ?_
      exact hK2 (v2 + (1 : Int32)) _ _ _ _ hq hH (lv_sub hl [1, 2, 0] rfl)
set_option maxRecDepth 100000 in
set_option maxHeartbeats 4000000 in
theorem c_X1_copyFrom {l : Launch} {D : va_G} {cs : wC4} {ad : Nat → Nat} {b : Nat} {G : wG} {k : Nat} {k1 : Nat} (hs : wSh k = (0, 1)) (hs1 : wSh k1 = (0, 1))  (I : wI) (hp : pre_X1_copyFrom k k1 I) : Met l yX1_copyFrom (ws_ yX1_copyFrom cX1_copyFrom 3 none) rm_X1_copyFrom (va_Pc [.ref (G.1 k), .ref (G.1 k1)] (wPr D cs ad b G I)) (va_Qv (fun I' => post_X1_copyFrom k k1 I I') (wPo D cs b G) (fun q => b ≤ q)) 0 0 (fun q => b ≤ q) := by
  have hq := vc_X1_copyFrom k k1 I hp
  refine w_met (by decide) (Nat.le_of_ble_eq_true rfl) ?_
  intro p e s m below meth c hX hr hlk hK hE hH ls hl
  have C0 : wCx p m c s _ meth cX1_copyFrom 3 RX1 none D cs ad b := ⟨hX, hr, hlk, hK, hE⟩
  have hX : CallFix p m c cX1_copyFrom 3 s _ lw_all RX1 := hX
  have hx := hX.1
  have hb := hX.2.1
  have hown := hX.2.2.2.1
  have hts := hX.2.2.2.2
  have hl : lv_has ls 3 [(0, .ref (G.1 k)), (1, .ref (G.1 k1))] := hl
  unfold v_X1_copyFrom at hq
  refine lv_iconst (v := 0) hx hb dX1_copyFrom_0 (by decide) ?_
  refine lv_istore_n (lv' := [(2, .int (0 : Int32)), (0, .ref (G.1 k)), (1, .ref (G.1 k1))]) hx hb dX1_copyFrom_1 rfl hl (by decide) rfl (fun ls hl => ?_)
  obtain ⟨f, hq⟩ := hq
  exact s_X1_copyFrom_2 hs hs1 C0  f (0 : Int32) _ _ _ _ hq hH (lv_sub hl [1, 2, 0] rfl)
abbrev rm_X3_copyFrom : Room := { frames := 1, cells := 0, slots := 0, locals := 22 }
theorem hd_X3_copyFrom : yX3_copyFrom.cls = RX3 ∧ yX3_copyFrom.cls ≠ "java/lang/invoke/MethodHandle" ∧ yX3_copyFrom.cls ≠ "java/lang/invoke/VarHandle" ∧ (parseMethodDescriptor yX3_copyFrom.desc).map (fun d => d.parameters.length) = some 1 := by decide +kernel
set_option maxRecDepth 100000 in
set_option maxHeartbeats 4000000 in
theorem s_X3_copyFrom_51 {k : Nat} {k1 : Nat} {Q : wI → Prop} (hs : wSh k = (0, 3)) (hs1 : wSh k1 = (0, 3)) (C0 : wCx p m c s args meth cX3_copyFrom 3 RX3 none D cs ad b) : ∀ (f : Nat) (v2 : Int32) (I : wI) (H : Heap) (locs : List Loc) (ls : Array Slot), v_X3_copyFrom_51 k k1 Q f v2 I → wH D cs b G I s H locs → lv_has ls 3 [(0, .ref (G.1 k)), (1, .ref (G.1 k1)), (2, .int v2)] → W p l e rm_X3_copyFrom s m args below meth c H locs 0 0 (MQ below (va_Qv (Q) (wPo D cs b G) (fun q => b ≤ q)) args s 0 0 (fun q => b ≤ q)) (F0 m 51 ls []) := by
  obtain ⟨hX, hr, hlk, hK, hE⟩ := id C0
  have hx := hX.1
  have hb := hX.2.1
  have hown := hX.2.2.2.1
  have hts := hX.2.2.2.2
  intro f
  induction f with
  | zero =>
    intro v2 I H locs ls hq
    exact hq.elim
  | succ f hK51 =>
    intro v2 I H locs ls hq hH hl
    have hq : g_X3_copyFrom_51 k k1 Q (v_X3_copyFrom_51 k k1 Q f) v2 I := hq
    unfold g_X3_copyFrom_51 at hq
    refine lv_iload_n hx hb dX3_copyFrom_51 rfl (lv_at hl 2 rfl) ?_
    refine lv_iconst (v := 5) hx hb dX3_copyFrom_52 (by decide) ?_
    refine lv_icmp_ge (tgt := 74) hx hb dX3_copyFrom_53 (by decide) (fun hc => ?_) (fun hc => ?_)
    · have hq := hq.1 hc
      refine lv_aload_n hx hb dX3_copyFrom_74 rfl (lv_at hl 0 rfl) ?_
      refine lv_aload_n hx hb dX3_copyFrom_75 rfl (lv_at hl 1 rfl) ?_
      refine w_geti hX hK hH ck3 hs1 6 fi3_6 q1_71 dX3_copyFrom_76 ?_
      refine w_puti hX hK hH ck3 hs 6 fw3_6 q1_71 dX3_copyFrom_79 (fun I1 H locs hI hH => ?_)
      have hq := hq I1 hI
      refine lv_aload_n hx hb dX3_copyFrom_82 rfl (lv_at hl 0 rfl) ?_
      refine lv_aload_n hx hb dX3_copyFrom_83 rfl (lv_at hl 1 rfl) ?_
      refine w_geti hX hK hH ck3 hs1 7 fi3_7 q1_73 dX3_copyFrom_84 ?_
      refine w_puti hX hK hH ck3 hs 7 fw3_7 q1_73 dX3_copyFrom_87 (fun I2 H locs hI hH => ?_)
      have hq := hq I2 hI
      refine lv_aload_n hx hb dX3_copyFrom_90 rfl (lv_at hl 0 rfl) ?_
      refine lv_aload_n hx hb dX3_copyFrom_91 rfl (lv_at hl 1 rfl) ?_
      refine w_geti hX hK hH ck3 hs1 8 fi3_8 q1_75 dX3_copyFrom_92 ?_
      refine w_puti hX hK hH ck3 hs 8 fw3_8 q1_75 dX3_copyFrom_95 (fun I3 H locs hI hH => ?_)
      have hq := hq I3 hI
      exact w_eV hX hr hlk hH hq dX3_copyFrom_98
    · have hq := hq.2 hc
      refine lv_aload_n hx hb dX3_copyFrom_56 rfl (lv_at hl 0 rfl) ?_
      refine w_getr hX hK hH ck3 hs 5 10 (k + 10) fr3_5 rfl q1_70 dX3_copyFrom_57 ?_
      refine lv_iload_n hx hb dX3_copyFrom_60 rfl (lv_at hl 2 rfl) ?_
      refine lv_aload_n hx hb dX3_copyFrom_61 rfl (lv_at hl 1 rfl) ?_
      refine w_getr hX hK hH ck3 hs1 5 10 (k1 + 10) fr3_5 rfl q1_70 dX3_copyFrom_62 ?_
      refine lv_iload_n hx hb dX3_copyFrom_65 rfl (lv_at hl 2 rfl) ?_
      obtain ⟨hc, hq⟩ := hq
      refine w_iald hX hK hH (sf3_5 hs1) hc dX3_copyFrom_66 ?_
      obtain ⟨hc, hq⟩ := hq
      refine w_iast hX hK hH (sf3_5 hs) hc dX3_copyFrom_67 (fun I4 H locs hI hH => ?_)
      have hq := hq I4 hI
      refine lv_iinc (v := (v2 + (1 : Int32))) (lv' := [(2, .int (v2 + (1 : Int32))), (0, .ref (G.1 k)), (1, .ref (G.1 k1))]) hx hb dX3_copyFrom_68 hl (k := 2) rfl rfl (by decide) rfl (fun ls hl => ?_)
      refine lv_goto (tgt := 51) hx hb dX3_copyFrom_71 (by decide) ?_
      exact hK51 (v2 + (1 : Int32)) _ _ _ _ hq hH (lv_sub hl [1, 2, 0] rfl)
set_option maxRecDepth 100000 in
set_option maxHeartbeats 4000000 in
theorem c_X3_copyFrom {l : Launch} {D : va_G} {cs : wC4} {ad : Nat → Nat} {b : Nat} {G : wG} {k : Nat} {k1 : Nat} (hs : wSh k = (0, 3)) (hs1 : wSh k1 = (0, 3))  (I : wI) (hp : pre_X3_copyFrom k k1 I) : Met l yX3_copyFrom (ws_ yX3_copyFrom cX3_copyFrom 3 none) rm_X3_copyFrom (va_Pc [.ref (G.1 k), .ref (G.1 k1)] (wPr D cs ad b G I)) (va_Qv (fun I' => post_X3_copyFrom k k1 I I') (wPo D cs b G) (fun q => b ≤ q)) 0 0 (fun q => b ≤ q) := by
  have hq := vc_X3_copyFrom k k1 I hp
  refine w_met (by decide) (Nat.le_of_ble_eq_true rfl) ?_
  intro p e s m below meth c hX hr hlk hK hE hH ls hl
  have C0 : wCx p m c s _ meth cX3_copyFrom 3 RX3 none D cs ad b := ⟨hX, hr, hlk, hK, hE⟩
  have hX : CallFix p m c cX3_copyFrom 3 s _ lw_all RX3 := hX
  have hx := hX.1
  have hb := hX.2.1
  have hown := hX.2.2.2.1
  have hts := hX.2.2.2.2
  have hl : lv_has ls 3 [(0, .ref (G.1 k)), (1, .ref (G.1 k1))] := hl
  unfold v_X3_copyFrom at hq
  refine lv_aload_n hx hb dX3_copyFrom_0 rfl (lv_at hl 0 rfl) ?_
  refine w_getr hX hK hH ck3 hs 0 1 (k + 1) fr3_0 rfl q1_56 dX3_copyFrom_1 ?_
  refine lv_aload_n hx hb dX3_copyFrom_4 rfl (lv_at hl 1 rfl) ?_
  refine w_getr hX hK hH ck3 hs1 0 1 (k1 + 1) fr3_0 rfl q1_56 dX3_copyFrom_5 ?_
  obtain ⟨hp, hq⟩ := hq
  refine w_cV hH (w_rV (As := [.ref (G.1 (k1 + 1))]) (rest := []) hX hK hE hH (c_X0_copyFrom (sf3_0 hs) (sf3_0 hs1)  _ hp) ck0 (sf3_0 hs) q2_44 q2_45 q2_46 q1_3 q2_47 hd_X0_copyFrom ⟨Nat.le_of_ble_eq_true rfl, Nat.le_of_ble_eq_true rfl⟩ ⟨rfl, rfl⟩ rfl hl.1 rfl (Nat.le_of_ble_eq_true rfl) dX3_copyFrom_8 ⟨Nat.zero_le _, Nat.zero_le _⟩) (fun  I1 H locs hpo hH => ?_)
  have hq := hq  I1 hpo
  refine lv_aload_n hx hb dX3_copyFrom_11 rfl (lv_at hl 0 rfl) ?_
  refine w_getr hX hK hH ck3 hs 1 4 (k + 4) fr3_1 rfl q1_59 dX3_copyFrom_12 ?_
  refine lv_aload_n hx hb dX3_copyFrom_15 rfl (lv_at hl 1 rfl) ?_
  refine w_getr hX hK hH ck3 hs1 1 4 (k1 + 4) fr3_1 rfl q1_59 dX3_copyFrom_16 ?_
  obtain ⟨hp, hq⟩ := hq
  refine w_cV hH (w_rV (As := [.ref (G.1 (k1 + 4))]) (rest := []) hX hK hE hH (c_X1_copyFrom (sf3_1 hs) (sf3_1 hs1)  _ hp) ck1 (sf3_1 hs) q2_48 q2_49 q2_50 q1_4 q2_51 hd_X1_copyFrom ⟨Nat.le_of_ble_eq_true rfl, Nat.le_of_ble_eq_true rfl⟩ ⟨rfl, rfl⟩ rfl hl.1 rfl (Nat.le_of_ble_eq_true rfl) dX3_copyFrom_19 ⟨Nat.zero_le _, Nat.zero_le _⟩) (fun  I2 H locs hpo hH => ?_)
  have hq := hq  I2 hpo
  refine lv_aload_n hx hb dX3_copyFrom_22 rfl (lv_at hl 0 rfl) ?_
  refine w_getr hX hK hH ck3 hs 2 7 (k + 7) fr3_2 rfl q1_62 dX3_copyFrom_23 ?_
  refine lv_aload_n hx hb dX3_copyFrom_26 rfl (lv_at hl 1 rfl) ?_
  refine w_getr hX hK hH ck3 hs1 2 7 (k1 + 7) fr3_2 rfl q1_62 dX3_copyFrom_27 ?_
  obtain ⟨hp, hq⟩ := hq
  refine w_cV hH (w_rV (As := [.ref (G.1 (k1 + 7))]) (rest := []) hX hK hE hH (c_X0_copyFrom (sf3_2 hs) (sf3_2 hs1)  _ hp) ck0 (sf3_2 hs) q2_44 q2_45 q2_46 q1_3 q2_47 hd_X0_copyFrom ⟨Nat.le_of_ble_eq_true rfl, Nat.le_of_ble_eq_true rfl⟩ ⟨rfl, rfl⟩ rfl hl.1 rfl (Nat.le_of_ble_eq_true rfl) dX3_copyFrom_30 ⟨Nat.zero_le _, Nat.zero_le _⟩) (fun  I3 H locs hpo hH => ?_)
  have hq := hq  I3 hpo
  refine lv_aload_n hx hb dX3_copyFrom_33 rfl (lv_at hl 0 rfl) ?_
  refine lv_aload_n hx hb dX3_copyFrom_34 rfl (lv_at hl 1 rfl) ?_
  refine w_geti hX hK hH ck3 hs1 3 fi3_3 q1_65 dX3_copyFrom_35 ?_
  obtain ⟨hz, hq⟩ := hq
  refine w_putz hz hX hK hH ck3 hs 3 fw3_3 q1_65 dX3_copyFrom_38 (fun I4 H locs hI hH => ?_)
  have hq := hq I4 hI
  refine lv_aload_n hx hb dX3_copyFrom_41 rfl (lv_at hl 0 rfl) ?_
  refine lv_aload_n hx hb dX3_copyFrom_42 rfl (lv_at hl 1 rfl) ?_
  refine w_geti hX hK hH ck3 hs1 4 fi3_4 q1_68 dX3_copyFrom_43 ?_
  refine w_puti hX hK hH ck3 hs 4 fw3_4 q1_68 dX3_copyFrom_46 (fun I5 H locs hI hH => ?_)
  have hq := hq I5 hI
  refine lv_iconst (v := 0) hx hb dX3_copyFrom_49 (by decide) ?_
  refine lv_istore_n (lv' := [(2, .int (0 : Int32)), (0, .ref (G.1 k)), (1, .ref (G.1 k1))]) hx hb dX3_copyFrom_50 rfl hl (by decide) rfl (fun ls hl => ?_)
  obtain ⟨f, hq⟩ := hq
  exact s_X3_copyFrom_51 hs hs1 C0  f (0 : Int32) _ _ _ _ hq hH (lv_sub hl [1, 2, 0] rfl)
abbrev rm_X5_writeSaved : Room := { frames := 2, cells := 0, slots := 0, locals := 44 }
theorem hd_X5_writeSaved : yX5_writeSaved.cls = RX5 ∧ yX5_writeSaved.cls ≠ "java/lang/invoke/MethodHandle" ∧ yX5_writeSaved.cls ≠ "java/lang/invoke/VarHandle" ∧ (parseMethodDescriptor yX5_writeSaved.desc).map (fun d => d.parameters.length) = some 1 := by decide +kernel
set_option maxRecDepth 100000 in
set_option maxHeartbeats 4000000 in
theorem s_X5_writeSaved_22 {k1 : Nat} {Q : wI → Prop} (hs1 : wSh k1 = (0, 3)) (C0 : wCx p m c s args meth cX5_writeSaved 2 RX5 none D cs ad b) : ∀  (I : wI) (H : Heap) (locs : List Loc) (ls : Array Slot), v_X5_writeSaved_22 k1 Q  I → wH D cs b G I s H locs → lv_has ls 2 [] → W p l e rm_X5_writeSaved s m args below meth c H locs 0 0 (MQ below (va_Qv (Q) (wPo D cs b G) (fun q => b ≤ q)) args s 0 0 (fun q => b ≤ q)) (F0 m 22 ls []) := by
  obtain ⟨hX, hr, hlk, hK, hE⟩ := id C0
  have hx := hX.1
  have hb := hX.2.1
  have hown := hX.2.2.2.1
  have hts := hX.2.2.2.2
  intro  I H locs ls hq hH hl
  unfold v_X5_writeSaved_22 at hq
  exact w_eV hX hr hlk hH hq dX5_writeSaved_22
set_option maxRecDepth 100000 in
set_option maxHeartbeats 4000000 in
theorem c_X5_writeSaved {l : Launch} {D : va_G} {cs : wC4} {ad : Nat → Nat} {b : Nat} {G : wG} {k1 : Nat} (hs1 : wSh k1 = (0, 3))  (I : wI) (hp : pre_X5_writeSaved k1 I) : Met l yX5_writeSaved (ws_ yX5_writeSaved cX5_writeSaved 2 none) rm_X5_writeSaved (va_Pc [.ref (G.1 0), .ref (G.1 k1)] (wPr D cs ad b G I)) (va_Qv (fun I' => post_X5_writeSaved k1 I I') (wPo D cs b G) (fun q => b ≤ q)) 0 0 (fun q => b ≤ q) := by
  have hq := vc_X5_writeSaved k1 I hp
  refine w_met (by decide) (Nat.le_of_ble_eq_true rfl) ?_
  intro p e s m below meth c hX hr hlk hK hE hH ls hl
  have C0 : wCx p m c s _ meth cX5_writeSaved 2 RX5 none D cs ad b := ⟨hX, hr, hlk, hK, hE⟩
  have hX : CallFix p m c cX5_writeSaved 2 s _ lw_all RX5 := hX
  have hx := hX.1
  have hb := hX.2.1
  have hown := hX.2.2.2.1
  have hts := hX.2.2.2.2
  have hl : lv_has ls 2 [(0, .ref (G.1 0)), (1, .ref (G.1 k1))] := hl
  unfold v_X5_writeSaved at hq
  refine lv_aload_n hx hb dX5_writeSaved_0 rfl (lv_at hl 1 rfl) ?_
  refine lv_ifnull hx hb dX5_writeSaved_1 ?_
  refine lv_aload_n hx hb dX5_writeSaved_4 rfl (lv_at hl 1 rfl) ?_
  refine lv_aload_n hx hb dX5_writeSaved_5 rfl (lv_at hl 0 rfl) ?_
  refine w_getr hX hK hH ck5 sh0 0 1 1 fr5_0 rfl q1_172 dX5_writeSaved_6 ?_
  obtain ⟨hp, hq⟩ := hq
  refine w_cV hH (w_rV (As := [.ref (G.1 1)]) (rest := []) hX hK hE hH (c_X3_copyFrom hs1 (sf5_0 sh0)  _ hp) ck3 hs1 q2_40 q2_41 q2_42 q1_2 q2_43 hd_X3_copyFrom ⟨Nat.le_of_ble_eq_true rfl, Nat.le_of_ble_eq_true rfl⟩ ⟨rfl, rfl⟩ rfl hl.1 rfl (Nat.le_of_ble_eq_true rfl) dX5_writeSaved_9 ⟨Nat.zero_le _, Nat.zero_le _⟩) (fun  I1 H locs hpo hH => ?_)
  have hq := hq  I1 hpo
  refine lv_aload_n hx hb dX5_writeSaved_12 rfl (lv_at hl 0 rfl) ?_
  refine lv_dup hx hb dX5_writeSaved_13 rfl ?_
  refine w_geti hX hK hH ck5 sh0 4 fi5_4 q1_176 dX5_writeSaved_14 ?_
  refine lv_iconst (v := 1) hx hb dX5_writeSaved_17 (by decide) ?_
  refine lv_iadd hx hb dX5_writeSaved_18 ?_
  refine w_puti hX hK hH ck5 sh0 4 fw5_4 q1_176 dX5_writeSaved_19 (fun I2 H locs hI hH => ?_)
  have hq := hq I2 hI
  exact s_X5_writeSaved_22 hs1 C0   _ _ _ _ hq hH (lv_sub hl [] rfl)
abbrev rm_X5_save : Room := { frames := 3, cells := 0, slots := 0, locals := 65 }
theorem hd_X5_save : yX5_save.cls = RX5 ∧ yX5_save.cls ≠ "java/lang/invoke/MethodHandle" ∧ yX5_save.cls ≠ "java/lang/invoke/VarHandle" ∧ (parseMethodDescriptor yX5_save.desc).map (fun d => d.parameters.length) = some 0 := by decide +kernel
set_option maxRecDepth 100000 in
set_option maxHeartbeats 4000000 in
theorem s_X5_save_42 {Q : wI → Prop} (C0 : wCx p m c s args meth cX5_save 1 RX5 none D cs ad b) : ∀  (I : wI) (H : Heap) (locs : List Loc) (ls : Array Slot), v_X5_save_42 Q  I → wH D cs b G I s H locs → lv_has ls 1 [] → W p l e rm_X5_save s m args below meth c H locs 0 0 (MQ below (va_Qv (Q) (wPo D cs b G) (fun q => b ≤ q)) args s 0 0 (fun q => b ≤ q)) (F0 m 42 ls []) := by
  obtain ⟨hX, hr, hlk, hK, hE⟩ := id C0
  have hx := hX.1
  have hb := hX.2.1
  have hown := hX.2.2.2.1
  have hts := hX.2.2.2.2
  intro  I H locs ls hq hH hl
  unfold v_X5_save_42 at hq
  exact w_eV hX hr hlk hH hq dX5_save_42
set_option maxRecDepth 100000 in
set_option maxHeartbeats 4000000 in
theorem s_X5_save_13 {Q : wI → Prop} (C0 : wCx p m c s args meth cX5_save 1 RX5 none D cs ad b) : ∀  (I : wI) (H : Heap) (locs : List Loc) (ls : Array Slot), v_X5_save_13 Q  I → wH D cs b G I s H locs → lv_has ls 1 [(0, .ref (G.1 0))] → W p l e rm_X5_save s m args below meth c H locs 0 0 (MQ below (va_Qv (Q) (wPo D cs b G) (fun q => b ≤ q)) args s 0 0 (fun q => b ≤ q)) (F0 m 13 ls []) := by
  obtain ⟨hX, hr, hlk, hK, hE⟩ := id C0
  have hx := hX.1
  have hb := hX.2.1
  have hown := hX.2.2.2.1
  have hts := hX.2.2.2.2
  intro  I H locs ls hq hH hl
  unfold v_X5_save_13 at hq
  refine lv_aload_n hx hb dX5_save_13 rfl (lv_at hl 0 rfl) ?_
  refine w_geti hX hK hH ck5 sh0 4 fi5_4 q1_176 dX5_save_14 ?_
  refine lv_if_lt (tgt := 42) hx hb dX5_save_17 (by decide) (fun hc => ?_) (fun hc => ?_)
  · have hq := hq.1 hc
    exact s_X5_save_42  C0   _ _ _ _ hq hH (lv_sub hl [] rfl)
  · have hq := hq.2 hc
    refine lv_aload_n hx hb dX5_save_20 rfl (lv_at hl 0 rfl) ?_
    refine w_geti hX hK hH ck5 sh0 4 fi5_4 q1_176 dX5_save_21 ?_
    refine lv_bipush (v := 6) hx hb dX5_save_24 (by decide) ?_
    refine lv_icmp_ge (tgt := 42) hx hb dX5_save_26 (by decide) (fun hc => ?_) (fun hc => ?_)
    · have hq := hq.1 hc
      exact s_X5_save_42  C0   _ _ _ _ hq hH (lv_sub hl [] rfl)
    · have hq := hq.2 hc
      refine lv_aload_n hx hb dX5_save_29 rfl (lv_at hl 0 rfl) ?_
      refine lv_aload_n hx hb dX5_save_30 rfl (lv_at hl 0 rfl) ?_
      refine w_getr hX hK hH ck5 sh0 3 23 23 fr5_3 rfl q1_175 dX5_save_31 ?_
      refine lv_aload_n hx hb dX5_save_34 rfl (lv_at hl 0 rfl) ?_
      refine w_geti hX hK hH ck5 sh0 4 fi5_4 q1_176 dX5_save_35 ?_
      obtain ⟨hc, hq⟩ := hq
      refine w_aald hX hK hH (sf5_3 sh0) hc dX5_save_38 ?_
      obtain ⟨hz61, hq⟩ := hq
      obtain ⟨hp, hq⟩ := hq
      refine w_cV hH (w_rV (As := [.ref (G.1 (wSv (I 23 ((I 0 4)).toNatClampNeg)))]) (rest := []) hX hK hE hH (c_X5_writeSaved (wSv_sh hz61)  _ hp) ck5 sh0 q2_68 q2_70 qs3 q1_1 q2_71 hd_X5_writeSaved ⟨Nat.le_of_ble_eq_true rfl, Nat.le_of_ble_eq_true rfl⟩ ⟨rfl, rfl⟩ rfl hl.1 rfl (Nat.le_of_ble_eq_true rfl) dX5_save_39 ⟨Nat.zero_le _, Nat.zero_le _⟩) (fun  I1 H locs hpo hH => ?_)
      have hq := hq  I1 hpo
      exact s_X5_save_42  C0   _ _ _ _ hq hH (lv_sub hl [] rfl)
set_option maxRecDepth 100000 in
set_option maxHeartbeats 4000000 in
theorem c_X5_save {l : Launch} {D : va_G} {cs : wC4} {ad : Nat → Nat} {b : Nat} {G : wG}  (I : wI) (hp : pre_X5_save  I) : Met l yX5_save (ws_ yX5_save cX5_save 1 none) rm_X5_save (va_Pc [.ref (G.1 0)] (wPr D cs ad b G I)) (va_Qv (fun I' => post_X5_save  I I') (wPo D cs b G) (fun q => b ≤ q)) 0 0 (fun q => b ≤ q) := by
  have hq := vc_X5_save  I hp
  refine w_met (by decide) (Nat.le_of_ble_eq_true rfl) ?_
  intro p e s m below meth c hX hr hlk hK hE hH ls hl
  have C0 : wCx p m c s _ meth cX5_save 1 RX5 none D cs ad b := ⟨hX, hr, hlk, hK, hE⟩
  have hX : CallFix p m c cX5_save 1 s _ lw_all RX5 := hX
  have hx := hX.1
  have hb := hX.2.1
  have hown := hX.2.2.2.1
  have hts := hX.2.2.2.2
  have hl : lv_has ls 1 [(0, .ref (G.1 0))] := hl
  unfold v_X5_save at hq
  refine lv_aload_n hx hb dX5_save_0 rfl (lv_at hl 0 rfl) ?_
  refine w_geti hX hK hH ck5 sh0 4 fi5_4 q1_176 dX5_save_1 ?_
  refine lv_bipush (v := 6) hx hb dX5_save_4 (by decide) ?_
  refine lv_icmp_lt (tgt := 13) hx hb dX5_save_6 (by decide) (fun hc => ?_) (fun hc => ?_)
  · have hq := hq.1 hc
    exact s_X5_save_13  C0   _ _ _ _ hq hH (lv_sub hl [0] rfl)
  · have hq := hq.2 hc
    refine lv_aload_n hx hb dX5_save_9 rfl (lv_at hl 0 rfl) ?_
    obtain ⟨hp, hq⟩ := hq
    refine w_cV hH (w_rV (As := []) (rest := []) hX hK hE hH (c_X5_dropOldest   _ hp) ck5 sh0 q2_64 q2_66 qs2 q1_1 q2_67 hd_X5_dropOldest ⟨Nat.le_of_ble_eq_true rfl, Nat.le_of_ble_eq_true rfl⟩ ⟨rfl, rfl⟩ rfl hl.1 rfl (Nat.le_of_ble_eq_true rfl) dX5_save_10 ⟨Nat.zero_le _, Nat.zero_le _⟩) (fun  I1 H locs hpo hH => ?_)
    have hq := hq  I1 hpo
    exact s_X5_save_13  C0   _ _ _ _ hq hH (lv_sub hl [0] rfl)
abbrev rm_X0_agreeing : Room := { frames := 0, cells := 0, slots := 0, locals := 0 }
theorem hd_X0_agreeing : yX0_agreeing.cls = RX0 ∧ yX0_agreeing.cls ≠ "java/lang/invoke/MethodHandle" ∧ yX0_agreeing.cls ≠ "java/lang/invoke/VarHandle" ∧ (parseMethodDescriptor yX0_agreeing.desc).map (fun d => d.parameters.length) = some 1 := by decide +kernel
set_option maxRecDepth 100000 in
set_option maxHeartbeats 4000000 in
theorem s_X0_agreeing_43 {k : Nat} {k1 : Nat} {I : wI} {Q : Int32 → Prop} {K4 : Int32 → Int32 → Prop} (hs : wSh k = (0, 0)) (hs1 : wSh k1 = (0, 0)) (C0 : wCx p m c s args meth cX0_agreeing 4 RX0 (some .int) D cs ad b) (hK4 : ∀ (v2 : Int32) (v3 : Int32) (H : Heap) (locs : List Loc) (ls : Array Slot), K4 v2 v3 → wH D cs b G I s H locs → lv_has ls 4 [(0, .ref (G.1 k)), (1, .ref (G.1 k1)), (2, .int v2), (3, .int v3)] → W p l e rm_X0_agreeing s m args below meth c H locs 0 0 (MQ below (va_Qi (fun r I' => I' = I ∧ Q r) (wPo D cs b G) (fun q => b ≤ q)) args s 0 0 (fun q => b ≤ q)) (F0 m 4 ls [])) : ∀ (v2 : Int32) (v3 : Int32) (H : Heap) (locs : List Loc) (ls : Array Slot), v_X0_agreeing_43 k k1 I Q K4 v2 v3 → wH D cs b G I s H locs → lv_has ls 4 [(0, .ref (G.1 k)), (1, .ref (G.1 k1)), (2, .int v2), (3, .int v3)] → W p l e rm_X0_agreeing s m args below meth c H locs 0 0 (MQ below (va_Qi (fun r I' => I' = I ∧ Q r) (wPo D cs b G) (fun q => b ≤ q)) args s 0 0 (fun q => b ≤ q)) (F0 m 43 ls []) := by
  obtain ⟨hX, hr, hlk, hK, hE⟩ := id C0
  have hx := hX.1
  have hb := hX.2.1
  have hown := hX.2.2.2.1
  have hts := hX.2.2.2.2
  intro v2 v3 H locs ls hq hH hl
  unfold v_X0_agreeing_43 at hq
  refine lv_iinc (v := (v3 + (1 : Int32))) (lv' := [(3, .int (v3 + (1 : Int32))), (0, .ref (G.1 k)), (1, .ref (G.1 k1)), (2, .int v2)]) hx hb dX0_agreeing_43 hl (k := 3) rfl rfl (by decide) rfl (fun ls hl => ?_)
  refine lv_goto (tgt := 4) hx hb dX0_agreeing_46 (by decide) ?_
  exact hK4 v2 (v3 + (1 : Int32)) _ _ _ hq hH (lv_sub hl [1, 2, 3, 0] rfl)
set_option maxRecDepth 100000 in
set_option maxHeartbeats 4000000 in
theorem s_X0_agreeing_4 {k : Nat} {k1 : Nat} {I : wI} {Q : Int32 → Prop} (hs : wSh k = (0, 0)) (hs1 : wSh k1 = (0, 0)) (C0 : wCx p m c s args meth cX0_agreeing 4 RX0 (some .int) D cs ad b) : ∀ (f : Nat) (v2 : Int32) (v3 : Int32) (H : Heap) (locs : List Loc) (ls : Array Slot), v_X0_agreeing_4 k k1 I Q f v2 v3 → wH D cs b G I s H locs → lv_has ls 4 [(0, .ref (G.1 k)), (1, .ref (G.1 k1)), (2, .int v2), (3, .int v3)] → W p l e rm_X0_agreeing s m args below meth c H locs 0 0 (MQ below (va_Qi (fun r I' => I' = I ∧ Q r) (wPo D cs b G) (fun q => b ≤ q)) args s 0 0 (fun q => b ≤ q)) (F0 m 4 ls []) := by
  obtain ⟨hX, hr, hlk, hK, hE⟩ := id C0
  have hx := hX.1
  have hb := hX.2.1
  have hown := hX.2.2.2.1
  have hts := hX.2.2.2.2
  intro f
  induction f with
  | zero =>
    intro v2 v3 H locs ls hq
    exact hq.elim
  | succ f hK4 =>
    intro v2 v3 H locs ls hq hH hl
    have hq : g_X0_agreeing_4 k k1 I Q (v_X0_agreeing_4 k k1 I Q f) v2 v3 := hq
    unfold g_X0_agreeing_4 at hq
    refine lv_iload_n hx hb dX0_agreeing_4 rfl (lv_at hl 3 rfl) ?_
    refine lv_bipush (v := 6) hx hb dX0_agreeing_5 (by decide) ?_
    refine lv_icmp_ge (tgt := 49) hx hb dX0_agreeing_7 (by decide) (fun hc => ?_) (fun hc => ?_)
    · have hq := hq.1 hc
      refine lv_iload_n hx hb dX0_agreeing_49 rfl (lv_at hl 2 rfl) ?_
      exact w_eI hX hr hlk hH ⟨rfl, hq⟩ dX0_agreeing_50
    · have hq := hq.2 hc
      refine lv_aload_n hx hb dX0_agreeing_10 rfl (lv_at hl 0 rfl) ?_
      refine w_getr hX hK hH ck0 hs 0 1 (k + 1) fr0_0 rfl q1_35 dX0_agreeing_11 ?_
      refine lv_iload_n hx hb dX0_agreeing_14 rfl (lv_at hl 3 rfl) ?_
      obtain ⟨hc, hq⟩ := hq
      refine w_iald hX hK hH (sf0_0 hs) hc dX0_agreeing_15 ?_
      refine lv_aload_n hx hb dX0_agreeing_16 rfl (lv_at hl 1 rfl) ?_
      refine w_getr hX hK hH ck0 hs1 0 1 (k1 + 1) fr0_0 rfl q1_35 dX0_agreeing_17 ?_
      refine lv_iload_n hx hb dX0_agreeing_20 rfl (lv_at hl 3 rfl) ?_
      obtain ⟨hc, hq⟩ := hq
      refine w_iald hX hK hH (sf0_0 hs1) hc dX0_agreeing_21 ?_
      refine lv_icmp_ne (tgt := 43) hx hb dX0_agreeing_22 (by decide) (fun hc => ?_) (fun hc => ?_)
      · have hq := hq.1 hc
        exact s_X0_agreeing_43 hs hs1 C0 hK4 v2 v3 _ _ _ hq hH (lv_sub hl [0, 1, 2, 3] rfl)
      · have hq := hq.2 hc
        refine lv_aload_n hx hb dX0_agreeing_25 rfl (lv_at hl 0 rfl) ?_
        refine w_getr hX hK hH ck0 hs 1 2 (k + 2) fr0_1 rfl q1_36 dX0_agreeing_26 ?_
        refine lv_iload_n hx hb dX0_agreeing_29 rfl (lv_at hl 3 rfl) ?_
        obtain ⟨hc, hq⟩ := hq
        refine w_iald hX hK hH (sf0_1 hs) hc dX0_agreeing_30 ?_
        refine lv_aload_n hx hb dX0_agreeing_31 rfl (lv_at hl 1 rfl) ?_
        refine w_getr hX hK hH ck0 hs1 1 2 (k1 + 2) fr0_1 rfl q1_36 dX0_agreeing_32 ?_
        refine lv_iload_n hx hb dX0_agreeing_35 rfl (lv_at hl 3 rfl) ?_
        obtain ⟨hc, hq⟩ := hq
        refine w_iald hX hK hH (sf0_1 hs1) hc dX0_agreeing_36 ?_
        refine lv_icmp_ne (tgt := 43) hx hb dX0_agreeing_37 (by decide) (fun hc => ?_) (fun hc => ?_)
        · have hq := hq.1 hc
          exact s_X0_agreeing_43 hs hs1 C0 hK4 v2 v3 _ _ _ hq hH (lv_sub hl [0, 1, 2, 3] rfl)
        · have hq := hq.2 hc
          refine lv_iinc (v := (v2 + (1 : Int32))) (lv' := [(2, .int (v2 + (1 : Int32))), (0, .ref (G.1 k)), (1, .ref (G.1 k1)), (3, .int v3)]) hx hb dX0_agreeing_40 hl (k := 2) rfl rfl (by decide) rfl (fun ls hl => ?_)
          exact s_X0_agreeing_43 hs hs1 C0 hK4 (v2 + (1 : Int32)) v3 _ _ _ hq hH (lv_sub hl [1, 2, 0, 3] rfl)
set_option maxRecDepth 100000 in
set_option maxHeartbeats 4000000 in
theorem c_X0_agreeing {l : Launch} {D : va_G} {cs : wC4} {ad : Nat → Nat} {b : Nat} {G : wG} {k : Nat} {k1 : Nat} (hs : wSh k = (0, 0)) (hs1 : wSh k1 = (0, 0))  (I : wI) (hp : pre_X0_agreeing k k1 I) : Met l yX0_agreeing (ws_ yX0_agreeing cX0_agreeing 4 (some .int)) rm_X0_agreeing (va_Pc [.ref (G.1 k), .ref (G.1 k1)] (wPr D cs ad b G I)) (va_Qi (fun r I' => I' = I ∧ post_X0_agreeing k k1 I r) (wPo D cs b G) (fun q => b ≤ q)) 0 0 (fun q => b ≤ q) := by
  have hq := vc_X0_agreeing k k1 I hp
  refine w_met (by decide) (Nat.le_of_ble_eq_true rfl) ?_
  intro p e s m below meth c hX hr hlk hK hE hH ls hl
  have C0 : wCx p m c s _ meth cX0_agreeing 4 RX0 (some .int) D cs ad b := ⟨hX, hr, hlk, hK, hE⟩
  have hX : CallFix p m c cX0_agreeing 4 s _ lw_all RX0 := hX
  have hx := hX.1
  have hb := hX.2.1
  have hown := hX.2.2.2.1
  have hts := hX.2.2.2.2
  have hl : lv_has ls 4 [(0, .ref (G.1 k)), (1, .ref (G.1 k1))] := hl
  unfold v_X0_agreeing at hq
  refine lv_iconst (v := 0) hx hb dX0_agreeing_0 (by decide) ?_
  refine lv_istore_n (lv' := [(2, .int (0 : Int32)), (0, .ref (G.1 k)), (1, .ref (G.1 k1))]) hx hb dX0_agreeing_1 rfl hl (by decide) rfl (fun ls hl => ?_)
  refine lv_iconst (v := 0) hx hb dX0_agreeing_2 (by decide) ?_
  refine lv_istore_n (lv' := [(3, .int (0 : Int32)), (2, .int (0 : Int32)), (0, .ref (G.1 k)), (1, .ref (G.1 k1))]) hx hb dX0_agreeing_3 rfl hl (by decide) rfl (fun ls hl => ?_)
  obtain ⟨f, hq⟩ := hq
  exact s_X0_agreeing_4 hs hs1 C0  f (0 : Int32) (0 : Int32) _ _ _ hq hH (lv_sub hl [2, 3, 1, 0] rfl)
abbrev rm_X3_asInSecret : Room := { frames := 1, cells := 0, slots := 0, locals := 23 }
theorem hd_X3_asInSecret : yX3_asInSecret.cls = RX3 ∧ yX3_asInSecret.cls ≠ "java/lang/invoke/MethodHandle" ∧ yX3_asInSecret.cls ≠ "java/lang/invoke/VarHandle" ∧ (parseMethodDescriptor yX3_asInSecret.desc).map (fun d => d.parameters.length) = some 1 := by decide +kernel
set_option maxRecDepth 100000 in
set_option maxHeartbeats 4000000 in
theorem s_X3_asInSecret_19 {k : Nat} {k1 : Nat} {I : wI} {Q : Int32 → Prop} (hs : wSh k = (0, 3)) (hs1 : wSh k1 = (0, 0)) (C0 : wCx p m c s args meth cX3_asInSecret 2 RX3 (some .int) D cs ad b) : ∀ (t0 : Int32) (H : Heap) (locs : List Loc) (ls : Array Slot), v_X3_asInSecret_19 k k1 I Q t0 → wH D cs b G I s H locs → lv_has ls 2 [] → W p l e rm_X3_asInSecret s m args below meth c H locs 0 0 (MQ below (va_Qi (fun r I' => I' = I ∧ Q r) (wPo D cs b G) (fun q => b ≤ q)) args s 0 0 (fun q => b ≤ q)) (F0 m 19 ls [.int t0]) := by
  obtain ⟨hX, hr, hlk, hK, hE⟩ := id C0
  have hx := hX.1
  have hb := hX.2.1
  have hown := hX.2.2.2.1
  have hts := hX.2.2.2.2
  intro t0 H locs ls hq hH hl
  unfold v_X3_asInSecret_19 at hq
  exact w_eI hX hr hlk hH ⟨rfl, hq⟩ dX3_asInSecret_19
set_option maxRecDepth 100000 in
set_option maxHeartbeats 4000000 in
theorem c_X3_asInSecret {l : Launch} {D : va_G} {cs : wC4} {ad : Nat → Nat} {b : Nat} {G : wG} {k : Nat} {k1 : Nat} (hs : wSh k = (0, 3)) (hs1 : wSh k1 = (0, 0))  (I : wI) (hp : pre_X3_asInSecret k k1 I) : Met l yX3_asInSecret (ws_ yX3_asInSecret cX3_asInSecret 2 (some .int)) rm_X3_asInSecret (va_Pc [.ref (G.1 k), .ref (G.1 k1)] (wPr D cs ad b G I)) (va_Qi (fun r I' => I' = I ∧ post_X3_asInSecret k k1 I r) (wPo D cs b G) (fun q => b ≤ q)) 0 0 (fun q => b ≤ q) := by
  have hq := vc_X3_asInSecret k k1 I hp
  refine w_met (by decide) (Nat.le_of_ble_eq_true rfl) ?_
  intro p e s m below meth c hX hr hlk hK hE hH ls hl
  have C0 : wCx p m c s _ meth cX3_asInSecret 2 RX3 (some .int) D cs ad b := ⟨hX, hr, hlk, hK, hE⟩
  have hX : CallFix p m c cX3_asInSecret 2 s _ lw_all RX3 := hX
  have hx := hX.1
  have hb := hX.2.1
  have hown := hX.2.2.2.1
  have hts := hX.2.2.2.2
  have hl : lv_has ls 2 [(0, .ref (G.1 k)), (1, .ref (G.1 k1))] := hl
  unfold v_X3_asInSecret at hq
  refine lv_aload_n hx hb dX3_asInSecret_0 rfl (lv_at hl 0 rfl) ?_
  refine w_geti hX hK hH ck3 hs 3 fi3_3 q1_65 dX3_asInSecret_1 ?_
  refine lv_if_eq (tgt := 18) hx hb dX3_asInSecret_4 (by decide) (fun hc => ?_) (fun hc => ?_)
  · have hq := hq.1 hc
    refine lv_iconst (v := 0) hx hb dX3_asInSecret_18 (by decide) ?_
    exact s_X3_asInSecret_19 hs hs1 C0  (0 : Int32) _ _ _ hq hH (lv_sub hl [] rfl)
  · have hq := hq.2 hc
    refine lv_aload_n hx hb dX3_asInSecret_7 rfl (lv_at hl 1 rfl) ?_
    refine lv_aload_n hx hb dX3_asInSecret_8 rfl (lv_at hl 0 rfl) ?_
    refine w_getr hX hK hH ck3 hs 2 7 (k + 7) fr3_2 rfl q1_62 dX3_asInSecret_9 ?_
    obtain ⟨hp, hq⟩ := hq
    refine w_cIp hH (w_rV (As := [.ref (G.1 (k + 7))]) (rest := []) hX hK hE hH (c_X0_agreeing hs1 (sf3_2 hs)  _ hp) ck0 hs1 q3_12 q3_13 q3_14 q1_3 q3_15 hd_X0_agreeing ⟨Nat.le_of_ble_eq_true rfl, Nat.le_of_ble_eq_true rfl⟩ ⟨rfl, rfl⟩ rfl hl.1 rfl (Nat.le_of_ble_eq_true rfl) dX3_asInSecret_12 ⟨Nat.zero_le _, Nat.zero_le _⟩) (fun r1  H locs hpo hH => ?_)
    have hq := hq r1  hpo
    refine lv_goto (tgt := 19) hx hb dX3_asInSecret_15 (by decide) ?_
    exact s_X3_asInSecret_19 hs hs1 C0  r1 _ _ _ hq hH (lv_sub hl [] rfl)
abbrev rm_X3_opens : Room := { frames := 2, cells := 0, slots := 0, locals := 44 }
theorem hd_X3_opens : yX3_opens.cls = RX3 ∧ yX3_opens.cls ≠ "java/lang/invoke/MethodHandle" ∧ yX3_opens.cls ≠ "java/lang/invoke/VarHandle" ∧ (parseMethodDescriptor yX3_opens.desc).map (fun d => d.parameters.length) = some 0 := by decide +kernel
set_option maxRecDepth 100000 in
set_option maxHeartbeats 4000000 in
theorem s_X3_opens_18 {k : Nat} {I : wI} {Q : Int32 → Prop} (hs : wSh k = (0, 3)) (C0 : wCx p m c s args meth cX3_opens 1 RX3 (some .boolean) D cs ad b) : ∀ (t0 : Int32) (H : Heap) (locs : List Loc) (ls : Array Slot), v_X3_opens_18 k I Q t0 → wH D cs b G I s H locs → lv_has ls 1 [] → W p l e rm_X3_opens s m args below meth c H locs 0 0 (MQ below (va_Qi (fun r I' => I' = I ∧ Q r) (wPo D cs b G) (fun q => b ≤ q)) args s 0 0 (fun q => b ≤ q)) (F0 m 18 ls [.int t0]) := by
  obtain ⟨hX, hr, hlk, hK, hE⟩ := id C0
  have hx := hX.1
  have hb := hX.2.1
  have hown := hX.2.2.2.1
  have hts := hX.2.2.2.2
  intro t0 H locs ls hq hH hl
  unfold v_X3_opens_18 at hq
  obtain ⟨hz, hq⟩ := hq
  exact w_eZ hz hX hr hlk hH ⟨rfl, hq⟩ dX3_opens_18
set_option maxRecDepth 100000 in
set_option maxHeartbeats 4000000 in
theorem c_X3_opens {l : Launch} {D : va_G} {cs : wC4} {ad : Nat → Nat} {b : Nat} {G : wG} {k : Nat} (hs : wSh k = (0, 3))  (I : wI) (hp : pre_X3_opens k I) : Met l yX3_opens (ws_ yX3_opens cX3_opens 1 (some .boolean)) rm_X3_opens (va_Pc [.ref (G.1 k)] (wPr D cs ad b G I)) (va_Qi (fun r I' => I' = I ∧ post_X3_opens k I r) (wPo D cs b G) (fun q => b ≤ q)) 0 0 (fun q => b ≤ q) := by
  have hq := vc_X3_opens k I hp
  refine w_met (by decide) (Nat.le_of_ble_eq_true rfl) ?_
  intro p e s m below meth c hX hr hlk hK hE hH ls hl
  have C0 : wCx p m c s _ meth cX3_opens 1 RX3 (some .boolean) D cs ad b := ⟨hX, hr, hlk, hK, hE⟩
  have hX : CallFix p m c cX3_opens 1 s _ lw_all RX3 := hX
  have hx := hX.1
  have hb := hX.2.1
  have hown := hX.2.2.2.1
  have hts := hX.2.2.2.2
  have hl : lv_has ls 1 [(0, .ref (G.1 k))] := hl
  unfold v_X3_opens at hq
  refine lv_aload_n hx hb dX3_opens_0 rfl (lv_at hl 0 rfl) ?_
  refine lv_aload_n hx hb dX3_opens_1 rfl (lv_at hl 0 rfl) ?_
  refine w_getr hX hK hH ck3 hs 0 1 (k + 1) fr3_0 rfl q1_56 dX3_opens_2 ?_
  obtain ⟨hp, hq⟩ := hq
  refine w_cIp hH (w_rV (As := [.ref (G.1 (k + 1))]) (rest := []) hX hK hE hH (c_X3_asInSecret hs (sf3_0 hs)  _ hp) ck3 hs q3_8 q3_9 q3_10 q1_2 q3_11 hd_X3_asInSecret ⟨Nat.le_of_ble_eq_true rfl, Nat.le_of_ble_eq_true rfl⟩ ⟨rfl, rfl⟩ rfl hl.1 rfl (Nat.le_of_ble_eq_true rfl) dX3_opens_5 ⟨Nat.zero_le _, Nat.zero_le _⟩) (fun r1  H locs hpo hH => ?_)
  have hq := hq r1  hpo
  refine lv_bipush (v := 6) hx hb dX3_opens_8 (by decide) ?_
  refine lv_icmp_ne (tgt := 17) hx hb dX3_opens_10 (by decide) (fun hc => ?_) (fun hc => ?_)
  · have hq := hq.1 hc
    refine lv_iconst (v := 0) hx hb dX3_opens_17 (by decide) ?_
    exact s_X3_opens_18 hs C0  (0 : Int32) _ _ _ hq hH (lv_sub hl [] rfl)
  · have hq := hq.2 hc
    refine lv_iconst (v := 1) hx hb dX3_opens_13 (by decide) ?_
    refine lv_goto (tgt := 18) hx hb dX3_opens_14 (by decide) ?_
    exact s_X3_opens_18 hs C0  (1 : Int32) _ _ _ hq hH (lv_sub hl [] rfl)
abbrev rm_X1_strengthOf : Room := { frames := 0, cells := 0, slots := 0, locals := 0 }
theorem hd_X1_strengthOf : yX1_strengthOf.cls = RX1 ∧ yX1_strengthOf.cls ≠ "java/lang/invoke/MethodHandle" ∧ yX1_strengthOf.cls ≠ "java/lang/invoke/VarHandle" ∧ (parseMethodDescriptor yX1_strengthOf.desc).map (fun d => d.parameters.length) = some 1 := by decide +kernel
set_option maxRecDepth 100000 in
set_option maxHeartbeats 4000000 in
theorem s_X1_strengthOf_19 {k : Nat} {x1 : Int32} {I : wI} {Q : Int32 → Prop} (hs : wSh k = (0, 1)) (C0 : wCx p m c s args meth cX1_strengthOf 2 RX1 (some .int) D cs ad b) : ∀ (t0 : Int32) (H : Heap) (locs : List Loc) (ls : Array Slot), v_X1_strengthOf_19 k x1 I Q t0 → wH D cs b G I s H locs → lv_has ls 2 [] → W p l e rm_X1_strengthOf s m args below meth c H locs 0 0 (MQ below (va_Qi (fun r I' => I' = I ∧ Q r) (wPo D cs b G) (fun q => b ≤ q)) args s 0 0 (fun q => b ≤ q)) (F0 m 19 ls [.int t0]) := by
  obtain ⟨hX, hr, hlk, hK, hE⟩ := id C0
  have hx := hX.1
  have hb := hX.2.1
  have hown := hX.2.2.2.1
  have hts := hX.2.2.2.2
  intro t0 H locs ls hq hH hl
  unfold v_X1_strengthOf_19 at hq
  exact w_eI hX hr hlk hH ⟨rfl, hq⟩ dX1_strengthOf_19
set_option maxRecDepth 100000 in
set_option maxHeartbeats 4000000 in
theorem s_X1_strengthOf_18 {k : Nat} {x1 : Int32} {I : wI} {Q : Int32 → Prop} (hs : wSh k = (0, 1)) (C0 : wCx p m c s args meth cX1_strengthOf 2 RX1 (some .int) D cs ad b) : ∀  (H : Heap) (locs : List Loc) (ls : Array Slot), v_X1_strengthOf_18 k x1 I Q  → wH D cs b G I s H locs → lv_has ls 2 [] → W p l e rm_X1_strengthOf s m args below meth c H locs 0 0 (MQ below (va_Qi (fun r I' => I' = I ∧ Q r) (wPo D cs b G) (fun q => b ≤ q)) args s 0 0 (fun q => b ≤ q)) (F0 m 18 ls []) := by
  obtain ⟨hX, hr, hlk, hK, hE⟩ := id C0
  have hx := hX.1
  have hb := hX.2.1
  have hown := hX.2.2.2.1
  have hts := hX.2.2.2.2
  intro  H locs ls hq hH hl
  unfold v_X1_strengthOf_18 at hq
  refine lv_iconst (v := 0) hx hb dX1_strengthOf_18 (by decide) ?_
  exact s_X1_strengthOf_19 hs C0  (0 : Int32) _ _ _ hq hH (lv_sub hl [] rfl)
set_option maxRecDepth 100000 in
set_option maxHeartbeats 4000000 in
theorem c_X1_strengthOf {l : Launch} {D : va_G} {cs : wC4} {ad : Nat → Nat} {b : Nat} {G : wG} {k : Nat} (hs : wSh k = (0, 1)) (x1 : Int32) (I : wI) (hp : pre_X1_strengthOf k x1 I) : Met l yX1_strengthOf (ws_ yX1_strengthOf cX1_strengthOf 2 (some .int)) rm_X1_strengthOf (va_Pc [.ref (G.1 k), .int x1] (wPr D cs ad b G I)) (va_Qi (fun r I' => I' = I ∧ post_X1_strengthOf k x1 I r) (wPo D cs b G) (fun q => b ≤ q)) 0 0 (fun q => b ≤ q) := by
  have hq := vc_X1_strengthOf k x1 I hp
  refine w_met (by decide) (Nat.le_of_ble_eq_true rfl) ?_
  intro p e s m below meth c hX hr hlk hK hE hH ls hl
  have C0 : wCx p m c s _ meth cX1_strengthOf 2 RX1 (some .int) D cs ad b := ⟨hX, hr, hlk, hK, hE⟩
  have hX : CallFix p m c cX1_strengthOf 2 s _ lw_all RX1 := hX
  have hx := hX.1
  have hb := hX.2.1
  have hown := hX.2.2.2.1
  have hts := hX.2.2.2.2
  have hl : lv_has ls 2 [(0, .ref (G.1 k)), (1, .int x1)] := hl
  unfold v_X1_strengthOf at hq
  refine lv_iload_n hx hb dX1_strengthOf_0 rfl (lv_at hl 1 rfl) ?_
  refine lv_if_lt (tgt := 18) hx hb dX1_strengthOf_1 (by decide) (fun hc => ?_) (fun hc => ?_)
  · have hq := hq.1 hc
    exact s_X1_strengthOf_18 hs C0   _ _ _ hq hH (lv_sub hl [] rfl)
  · have hq := hq.2 hc
    refine lv_iload_n hx hb dX1_strengthOf_4 rfl (lv_at hl 1 rfl) ?_
    refine lv_iconst (v := 5) hx hb dX1_strengthOf_5 (by decide) ?_
    refine lv_icmp_ge (tgt := 18) hx hb dX1_strengthOf_6 (by decide) (fun hc => ?_) (fun hc => ?_)
    · have hq := hq.1 hc
      exact s_X1_strengthOf_18 hs C0   _ _ _ hq hH (lv_sub hl [] rfl)
    · have hq := hq.2 hc
      refine lv_aload_n hx hb dX1_strengthOf_9 rfl (lv_at hl 0 rfl) ?_
      refine w_getr hX hK hH ck1 hs 1 2 (k + 2) fr1_1 rfl q1_50 dX1_strengthOf_10 ?_
      refine lv_iload_n hx hb dX1_strengthOf_13 rfl (lv_at hl 1 rfl) ?_
      obtain ⟨hc, hq⟩ := hq
      refine w_iald hX hK hH (sf1_1 hs) hc dX1_strengthOf_14 ?_
      refine lv_goto (tgt := 19) hx hb dX1_strengthOf_15 (by decide) ?_
      exact s_X1_strengthOf_19 hs C0  (I (k + 2) (x1).toNatClampNeg) _ _ _ hq hH (lv_sub hl [] rfl)
abbrev rm_X5_isBack : Room := { frames := 0, cells := 0, slots := 0, locals := 0 }
theorem hd_X5_isBack : yX5_isBack.cls = RX5 ∧ yX5_isBack.cls ≠ "java/lang/invoke/MethodHandle" ∧ yX5_isBack.cls ≠ "java/lang/invoke/VarHandle" ∧ (parseMethodDescriptor yX5_isBack.desc).map (fun d => d.parameters.length) = some 1 := by decide +kernel
set_option maxRecDepth 100000 in
set_option maxHeartbeats 4000000 in
theorem s_X5_isBack_10 {x0 : Int32} {I : wI} {Q : Int32 → Prop} (C0 : wCx p m c s args meth cX5_isBack 1 RX5 (some .boolean) D cs ad b) : ∀ (t0 : Int32) (H : Heap) (locs : List Loc) (ls : Array Slot), v_X5_isBack_10 x0 I Q t0 → wH D cs b G I s H locs → lv_has ls 1 [] → W p l e rm_X5_isBack s m args below meth c H locs 0 0 (MQ below (va_Qi (fun r I' => I' = I ∧ Q r) (wPo D cs b G) (fun q => b ≤ q)) args s 0 0 (fun q => b ≤ q)) (F0 m 10 ls [.int t0]) := by
  obtain ⟨hX, hr, hlk, hK, hE⟩ := id C0
  have hx := hX.1
  have hb := hX.2.1
  have hown := hX.2.2.2.1
  have hts := hX.2.2.2.2
  intro t0 H locs ls hq hH hl
  unfold v_X5_isBack_10 at hq
  obtain ⟨hz, hq⟩ := hq
  exact w_eZ hz hX hr hlk hH ⟨rfl, hq⟩ dX5_isBack_10
set_option maxRecDepth 100000 in
set_option maxHeartbeats 4000000 in
theorem c_X5_isBack {l : Launch} {D : va_G} {cs : wC4} {ad : Nat → Nat} {b : Nat} {G : wG} (x0 : Int32) (I : wI) (hp : pre_X5_isBack x0 I) : Met l yX5_isBack (ws_ yX5_isBack cX5_isBack 1 (some .boolean)) rm_X5_isBack (va_Pc [.int x0] (wPr D cs ad b G I)) (va_Qi (fun r I' => I' = I ∧ post_X5_isBack x0 I r) (wPo D cs b G) (fun q => b ≤ q)) 0 0 (fun q => b ≤ q) := by
  have hq := vc_X5_isBack x0 I hp
  refine w_met (by decide) (Nat.le_of_ble_eq_true rfl) ?_
  intro p e s m below meth c hX hr hlk hK hE hH ls hl
  have C0 : wCx p m c s _ meth cX5_isBack 1 RX5 (some .boolean) D cs ad b := ⟨hX, hr, hlk, hK, hE⟩
  have hX : CallFix p m c cX5_isBack 1 s _ lw_all RX5 := hX
  have hx := hX.1
  have hb := hX.2.1
  have hown := hX.2.2.2.1
  have hts := hX.2.2.2.2
  have hl : lv_has ls 1 [(0, .int x0)] := hl
  unfold v_X5_isBack at hq
  refine lv_iload_n hx hb dX5_isBack_0 rfl (lv_at hl 0 rfl) ?_
  refine lv_iconst (v := 5) hx hb dX5_isBack_1 (by decide) ?_
  refine lv_icmp_lt (tgt := 9) hx hb dX5_isBack_2 (by decide) (fun hc => ?_) (fun hc => ?_)
  · have hq := hq.1 hc
    refine lv_iconst (v := 0) hx hb dX5_isBack_9 (by decide) ?_
    exact s_X5_isBack_10  C0  (0 : Int32) _ _ _ hq hH (lv_sub hl [] rfl)
  · have hq := hq.2 hc
    refine lv_iconst (v := 1) hx hb dX5_isBack_5 (by decide) ?_
    refine lv_goto (tgt := 10) hx hb dX5_isBack_6 (by decide) ?_
    exact s_X5_isBack_10  C0  (1 : Int32) _ _ _ hq hH (lv_sub hl [] rfl)
abbrev rm_X0_rotate : Room := { frames := 0, cells := 0, slots := 0, locals := 0 }
theorem hd_X0_rotate : yX0_rotate.cls = RX0 ∧ yX0_rotate.cls ≠ "java/lang/invoke/MethodHandle" ∧ yX0_rotate.cls ≠ "java/lang/invoke/VarHandle" ∧ (parseMethodDescriptor yX0_rotate.desc).map (fun d => d.parameters.length) = some 3 := by decide +kernel
set_option maxRecDepth 100000 in
set_option maxHeartbeats 4000000 in
theorem s_X0_rotate_155 {k : Nat} {x1 : Int32} {x2 : Int32} {x3 : Int32} {Q : wI → Prop} (hs : wSh k = (0, 0)) (C0 : wCx p m c s args meth cX0_rotate 12 RX0 none D cs ad b) : ∀  (I : wI) (H : Heap) (locs : List Loc) (ls : Array Slot), v_X0_rotate_155 k x1 x2 x3 Q  I → wH D cs b G I s H locs → lv_has ls 12 [] → W p l e rm_X0_rotate s m args below meth c H locs 0 0 (MQ below (va_Qv (Q) (wPo D cs b G) (fun q => b ≤ q)) args s 0 0 (fun q => b ≤ q)) (F0 m 155 ls []) := by
  obtain ⟨hX, hr, hlk, hK, hE⟩ := id C0
  have hx := hX.1
  have hb := hX.2.1
  have hown := hX.2.2.2.1
  have hts := hX.2.2.2.2
  intro  I H locs ls hq hH hl
  unfold v_X0_rotate_155 at hq
  exact w_eV hX hr hlk hH hq dX0_rotate_155
set_option maxRecDepth 100000 in
set_option maxHeartbeats 4000000 in
theorem s_X0_rotate_119 {k : Nat} {x1 : Int32} {x2 : Int32} {x3 : Int32} {Q : wI → Prop} {K25 : Int32 → Int32 → Int32 → Int32 → Int32 → wI → Prop} (hs : wSh k = (0, 0)) (C0 : wCx p m c s args meth cX0_rotate 12 RX0 none D cs ad b) (hK25 : ∀ (v4 : Int32) (v5 : Int32) (v6 : Int32) (v7 : Int32) (v8 : Int32) (I : wI) (H : Heap) (locs : List Loc) (ls : Array Slot), K25 v4 v5 v6 v7 v8 I → wH D cs b G I s H locs → lv_has ls 12 [(0, .ref (G.1 k)), (1, .int x1), (3, .int x3), (4, .int v4), (5, .int v5), (6, .int v6), (7, .int v7), (8, .int v8)] → W p l e rm_X0_rotate s m args below meth c H locs 0 0 (MQ below (va_Qv (Q) (wPo D cs b G) (fun q => b ≤ q)) args s 0 0 (fun q => b ≤ q)) (F0 m 25 ls [])) : ∀ (v4 : Int32) (v5 : Int32) (v6 : Int32) (v7 : Int32) (v8 : Int32) (I : wI) (H : Heap) (locs : List Loc) (ls : Array Slot), v_X0_rotate_119 k x1 x2 x3 Q K25 v4 v5 v6 v7 v8 I → wH D cs b G I s H locs → lv_has ls 12 [(0, .ref (G.1 k)), (1, .int x1), (3, .int x3), (4, .int v4), (5, .int v5), (6, .int v6), (7, .int v7), (8, .int v8)] → W p l e rm_X0_rotate s m args below meth c H locs 0 0 (MQ below (va_Qv (Q) (wPo D cs b G) (fun q => b ≤ q)) args s 0 0 (fun q => b ≤ q)) (F0 m 119 ls []) := by
  obtain ⟨hX, hr, hlk, hK, hE⟩ := id C0
  have hx := hX.1
  have hb := hX.2.1
  have hown := hX.2.2.2.1
  have hts := hX.2.2.2.2
  intro v4 v5 v6 v7 v8 I H locs ls hq hH hl
  unfold v_X0_rotate_119 at hq
  refine lv_iinc (v := (v8 + (1 : Int32))) (lv' := [(8, .int (v8 + (1 : Int32))), (0, .ref (G.1 k)), (1, .int x1), (3, .int x3), (4, .int v4), (5, .int v5), (6, .int v6), (7, .int v7)]) hx hb dX0_rotate_119 hl (k := 7) rfl rfl (by decide) rfl (fun ls hl => ?_)
  refine lv_goto (tgt := 25) hx hb dX0_rotate_122 (by decide) ?_
  exact hK25 v4 v5 v6 v7 (v8 + (1 : Int32)) _ _ _ _ hq hH (lv_sub hl [1, 2, 3, 4, 5, 6, 7, 0] rfl)
set_option maxRecDepth 100000 in
set_option maxHeartbeats 4000000 in
theorem s_X0_rotate_111 {k : Nat} {x1 : Int32} {x2 : Int32} {x3 : Int32} {Q : wI → Prop} {K25 : Int32 → Int32 → Int32 → Int32 → Int32 → wI → Prop} (hs : wSh k = (0, 0)) (C0 : wCx p m c s args meth cX0_rotate 12 RX0 none D cs ad b) (hK25 : ∀ (v4 : Int32) (v5 : Int32) (v6 : Int32) (v7 : Int32) (v8 : Int32) (I : wI) (H : Heap) (locs : List Loc) (ls : Array Slot), K25 v4 v5 v6 v7 v8 I → wH D cs b G I s H locs → lv_has ls 12 [(0, .ref (G.1 k)), (1, .int x1), (3, .int x3), (4, .int v4), (5, .int v5), (6, .int v6), (7, .int v7), (8, .int v8)] → W p l e rm_X0_rotate s m args below meth c H locs 0 0 (MQ below (va_Qv (Q) (wPo D cs b G) (fun q => b ≤ q)) args s 0 0 (fun q => b ≤ q)) (F0 m 25 ls [])) : ∀ (v4 : Int32) (v5 : Int32) (v8 : Int32) (v10 : Int32) (v11 : Int32) (I : wI) (H : Heap) (locs : List Loc) (ls : Array Slot), v_X0_rotate_111 k x1 x2 x3 Q K25 v4 v5 v8 v10 v11 I → wH D cs b G I s H locs → lv_has ls 12 [(0, .ref (G.1 k)), (1, .int x1), (3, .int x3), (4, .int v4), (5, .int v5), (8, .int v8), (10, .int v10), (11, .int v11)] → W p l e rm_X0_rotate s m args below meth c H locs 0 0 (MQ below (va_Qv (Q) (wPo D cs b G) (fun q => b ≤ q)) args s 0 0 (fun q => b ≤ q)) (F0 m 111 ls []) := by
  obtain ⟨hX, hr, hlk, hK, hE⟩ := id C0
  have hx := hX.1
  have hb := hX.2.1
  have hown := hX.2.2.2.1
  have hts := hX.2.2.2.2
  intro v4 v5 v8 v10 v11 I H locs ls hq hH hl
  unfold v_X0_rotate_111 at hq
  refine lv_iload hx hb dX0_rotate_111 (lv_at hl 6 rfl) ?_
  refine lv_istore (lv' := [(6, .int v10), (0, .ref (G.1 k)), (1, .int x1), (3, .int x3), (4, .int v4), (5, .int v5), (8, .int v8), (10, .int v10), (11, .int v11)]) hx hb dX0_rotate_113 hl (by decide) rfl (fun ls hl => ?_)
  refine lv_iload hx hb dX0_rotate_115 (lv_at hl 8 rfl) ?_
  refine lv_istore (lv' := [(7, .int v11), (6, .int v10), (0, .ref (G.1 k)), (1, .int x1), (3, .int x3), (4, .int v4), (5, .int v5), (8, .int v8), (10, .int v10), (11, .int v11)]) hx hb dX0_rotate_117 hl (by decide) rfl (fun ls hl => ?_)
  exact s_X0_rotate_119 hs C0 hK25 v4 v5 v10 v11 v8 _ _ _ _ hq hH (lv_sub hl [2, 3, 4, 5, 6, 1, 0, 7] rfl)
set_option maxRecDepth 100000 in
set_option maxHeartbeats 4000000 in
theorem s_X0_rotate_45 {k : Nat} {x1 : Int32} {x2 : Int32} {x3 : Int32} {Q : wI → Prop} {K25 : Int32 → Int32 → Int32 → Int32 → Int32 → wI → Prop} (hs : wSh k = (0, 0)) (C0 : wCx p m c s args meth cX0_rotate 12 RX0 none D cs ad b) (hK25 : ∀ (v4 : Int32) (v5 : Int32) (v6 : Int32) (v7 : Int32) (v8 : Int32) (I : wI) (H : Heap) (locs : List Loc) (ls : Array Slot), K25 v4 v5 v6 v7 v8 I → wH D cs b G I s H locs → lv_has ls 12 [(0, .ref (G.1 k)), (1, .int x1), (3, .int x3), (4, .int v4), (5, .int v5), (6, .int v6), (7, .int v7), (8, .int v8)] → W p l e rm_X0_rotate s m args below meth c H locs 0 0 (MQ below (va_Qv (Q) (wPo D cs b G) (fun q => b ≤ q)) args s 0 0 (fun q => b ≤ q)) (F0 m 25 ls [])) : ∀ (v4 : Int32) (v5 : Int32) (v6 : Int32) (v7 : Int32) (v8 : Int32) (t0 : Int32) (I : wI) (H : Heap) (locs : List Loc) (ls : Array Slot), v_X0_rotate_45 k x1 x2 x3 Q K25 v4 v5 v6 v7 v8 t0 I → wH D cs b G I s H locs → lv_has ls 12 [(0, .ref (G.1 k)), (1, .int x1), (3, .int x3), (4, .int v4), (5, .int v5), (6, .int v6), (7, .int v7), (8, .int v8)] → W p l e rm_X0_rotate s m args below meth c H locs 0 0 (MQ below (va_Qv (Q) (wPo D cs b G) (fun q => b ≤ q)) args s 0 0 (fun q => b ≤ q)) (F0 m 45 ls [.int t0]) := by
  obtain ⟨hX, hr, hlk, hK, hE⟩ := id C0
  have hx := hX.1
  have hb := hX.2.1
  have hown := hX.2.2.2.1
  have hts := hX.2.2.2.2
  intro v4 v5 v6 v7 v8 t0 I H locs ls hq hH hl
  unfold v_X0_rotate_45 at hq
  refine lv_istore (lv' := [(9, .int t0), (0, .ref (G.1 k)), (1, .int x1), (3, .int x3), (4, .int v4), (5, .int v5), (6, .int v6), (7, .int v7), (8, .int v8)]) hx hb dX0_rotate_45 hl (by decide) rfl (fun ls hl => ?_)
  refine lv_iload_n hx hb dX0_rotate_47 rfl (lv_at hl 2 rfl) ?_
  refine lv_iload hx hb dX0_rotate_48 (lv_at hl 0 rfl) ?_
  refine lv_ishr hx hb dX0_rotate_50 ?_
  refine lv_iconst (v := 1) hx hb dX0_rotate_51 (by decide) ?_
  refine lv_iand hx hb dX0_rotate_52 ?_
  refine lv_iconst (v := 1) hx hb dX0_rotate_53 (by decide) ?_
  refine lv_icmp_ne (tgt := 119) hx hb dX0_rotate_54 (by decide) (fun hc => ?_) (fun hc => ?_)
  · have hq := hq.1 hc
    exact s_X0_rotate_119 hs C0 hK25 v4 v5 v6 v7 v8 _ _ _ _ hq hH (lv_sub hl [1, 2, 3, 4, 5, 6, 7, 8] rfl)
  · have hq := hq.2 hc
    refine lv_aload_n hx hb dX0_rotate_57 rfl (lv_at hl 1 rfl) ?_
    refine w_getr hX hK hH ck0 hs 0 1 (k + 1) fr0_0 rfl q1_35 dX0_rotate_58 ?_
    refine lv_iload hx hb dX0_rotate_61 (lv_at hl 0 rfl) ?_
    obtain ⟨hc, hq⟩ := hq
    refine w_iald hX hK hH (sf0_0 hs) hc dX0_rotate_63 ?_
    refine lv_istore (lv' := [(10, .int (I (k + 1) (t0).toNatClampNeg)), (9, .int t0), (0, .ref (G.1 k)), (1, .int x1), (3, .int x3), (4, .int v4), (5, .int v5), (6, .int v6), (7, .int v7), (8, .int v8)]) hx hb dX0_rotate_64 hl (by decide) rfl (fun ls hl => ?_)
    refine lv_aload_n hx hb dX0_rotate_66 rfl (lv_at hl 2 rfl) ?_
    refine w_getr hX hK hH ck0 hs 1 2 (k + 2) fr0_1 rfl q1_36 dX0_rotate_67 ?_
    refine lv_iload hx hb dX0_rotate_70 (lv_at hl 1 rfl) ?_
    obtain ⟨hc, hq⟩ := hq
    refine w_iald hX hK hH (sf0_1 hs) hc dX0_rotate_72 ?_
    refine lv_iload hx hb dX0_rotate_73 (lv_at hl 5 rfl) ?_
    refine lv_iadd hx hb dX0_rotate_75 ?_
    refine lv_iconst (v := 5) hx hb dX0_rotate_76 (by decide) ?_
    refine lv_irem hx hb dX0_rotate_77 (by decide) ?_
    refine lv_istore (lv' := [(11, .int (((I (k + 2) (t0).toNatClampNeg) + v4) - ((I (k + 2) (t0).toNatClampNeg) + v4) / (5 : Int32) * (5 : Int32))), (10, .int (I (k + 1) (t0).toNatClampNeg)), (9, .int t0), (0, .ref (G.1 k)), (1, .int x1), (3, .int x3), (4, .int v4), (5, .int v5), (6, .int v6), (7, .int v7), (8, .int v8)]) hx hb dX0_rotate_78 hl (by decide) rfl (fun ls hl => ?_)
    refine lv_iload hx hb dX0_rotate_80 (lv_at hl 7 rfl) ?_
    refine lv_iconst (v := -1) hx hb dX0_rotate_82 (by decide) ?_
    refine lv_icmp_ne (tgt := 93) hx hb dX0_rotate_83 (by decide) (fun hc => ?_) (fun hc => ?_)
    · have hq := hq.1 hc
      refine lv_aload_n hx hb dX0_rotate_93 rfl (lv_at hl 3 rfl) ?_
      refine w_getr hX hK hH ck0 hs 0 1 (k + 1) fr0_0 rfl q1_35 dX0_rotate_94 ?_
      refine lv_iload hx hb dX0_rotate_97 (lv_at hl 2 rfl) ?_
      refine lv_iload hx hb dX0_rotate_99 (lv_at hl 8 rfl) ?_
      obtain ⟨hc, hq⟩ := hq
      refine w_iast hX hK hH (sf0_0 hs) hc dX0_rotate_101 (fun I1 H locs hI hH => ?_)
      have hq := hq I1 hI
      refine lv_aload_n hx hb dX0_rotate_102 rfl (lv_at hl 3 rfl) ?_
      refine w_getr hX hK hH ck0 hs 1 2 (k + 2) fr0_1 rfl q1_36 dX0_rotate_103 ?_
      refine lv_iload hx hb dX0_rotate_106 (lv_at hl 2 rfl) ?_
      refine lv_iload hx hb dX0_rotate_108 (lv_at hl 9 rfl) ?_
      obtain ⟨hc, hq⟩ := hq
      refine w_iast hX hK hH (sf0_1 hs) hc dX0_rotate_110 (fun I2 H locs hI hH => ?_)
      have hq := hq I2 hI
      exact s_X0_rotate_111 hs C0 hK25 v4 v5 v8 (I (k + 1) (t0).toNatClampNeg) (((I (k + 2) (t0).toNatClampNeg) + v4) - ((I (k + 2) (t0).toNatClampNeg) + v4) / (5 : Int32) * (5 : Int32)) _ _ _ _ hq hH (lv_sub hl [3, 4, 5, 6, 7, 10, 1, 0] rfl)
    · have hq := hq.2 hc
      refine lv_iload hx hb dX0_rotate_86 (lv_at hl 2 rfl) ?_
      refine lv_istore (lv' := [(5, .int t0), (11, .int (((I (k + 2) (t0).toNatClampNeg) + v4) - ((I (k + 2) (t0).toNatClampNeg) + v4) / (5 : Int32) * (5 : Int32))), (10, .int (I (k + 1) (t0).toNatClampNeg)), (9, .int t0), (0, .ref (G.1 k)), (1, .int x1), (3, .int x3), (4, .int v4), (6, .int v6), (7, .int v7), (8, .int v8)]) hx hb dX0_rotate_88 hl (by decide) rfl (fun ls hl => ?_)
      refine lv_goto (tgt := 111) hx hb dX0_rotate_90 (by decide) ?_
      exact s_X0_rotate_111 hs C0 hK25 v4 t0 v8 (I (k + 1) (t0).toNatClampNeg) (((I (k + 2) (t0).toNatClampNeg) + v4) - ((I (k + 2) (t0).toNatClampNeg) + v4) / (5 : Int32) * (5 : Int32)) _ _ _ _ hq hH (lv_sub hl [4, 5, 6, 7, 0, 10, 2, 1] rfl)
set_option maxRecDepth 100000 in
set_option maxHeartbeats 4000000 in
theorem s_X0_rotate_25 {k : Nat} {x1 : Int32} {x2 : Int32} {x3 : Int32} {Q : wI → Prop} (hs : wSh k = (0, 0)) (C0 : wCx p m c s args meth cX0_rotate 12 RX0 none D cs ad b) : ∀ (f : Nat) (v4 : Int32) (v5 : Int32) (v6 : Int32) (v7 : Int32) (v8 : Int32) (I : wI) (H : Heap) (locs : List Loc) (ls : Array Slot), v_X0_rotate_25 k x1 x2 x3 Q f v4 v5 v6 v7 v8 I → wH D cs b G I s H locs → lv_has ls 12 [(0, .ref (G.1 k)), (1, .int x1), (3, .int x3), (4, .int v4), (5, .int v5), (6, .int v6), (7, .int v7), (8, .int v8)] → W p l e rm_X0_rotate s m args below meth c H locs 0 0 (MQ below (va_Qv (Q) (wPo D cs b G) (fun q => b ≤ q)) args s 0 0 (fun q => b ≤ q)) (F0 m 25 ls []) := by
  obtain ⟨hX, hr, hlk, hK, hE⟩ := id C0
  have hx := hX.1
  have hb := hX.2.1
  have hown := hX.2.2.2.1
  have hts := hX.2.2.2.2
  intro f
  induction f with
  | zero =>
    intro v4 v5 v6 v7 v8 I H locs ls hq
    exact hq.elim
  | succ f hK25 =>
    intro v4 v5 v6 v7 v8 I H locs ls hq hH hl
    have hq : g_X0_rotate_25 k x1 x2 x3 Q (v_X0_rotate_25 k x1 x2 x3 Q f) v4 v5 v6 v7 v8 I := hq
    unfold g_X0_rotate_25 at hq
    refine lv_iload hx hb dX0_rotate_25 (lv_at hl 7 rfl) ?_
    refine lv_bipush (v := 6) hx hb dX0_rotate_27 (by decide) ?_
    refine lv_icmp_ge (tgt := 125) hx hb dX0_rotate_29 (by decide) (fun hc => ?_) (fun hc => ?_)
    · have hq := hq.1 hc
      refine lv_iload hx hb dX0_rotate_125 (lv_at hl 4 rfl) ?_
      refine lv_if_lt (tgt := 155) hx hb dX0_rotate_127 (by decide) (fun hc => ?_) (fun hc => ?_)
      · have hq := hq.1 hc
        exact s_X0_rotate_155 hs C0   _ _ _ _ hq hH (lv_sub hl [] rfl)
      · have hq := hq.2 hc
        refine lv_iload hx hb dX0_rotate_130 (lv_at hl 4 rfl) ?_
        refine lv_bipush (v := 6) hx hb dX0_rotate_132 (by decide) ?_
        refine lv_icmp_ge (tgt := 155) hx hb dX0_rotate_134 (by decide) (fun hc => ?_) (fun hc => ?_)
        · have hq := hq.1 hc
          exact s_X0_rotate_155 hs C0   _ _ _ _ hq hH (lv_sub hl [] rfl)
        · have hq := hq.2 hc
          refine lv_aload_n hx hb dX0_rotate_137 rfl (lv_at hl 0 rfl) ?_
          refine w_getr hX hK hH ck0 hs 0 1 (k + 1) fr0_0 rfl q1_35 dX0_rotate_138 ?_
          refine lv_iload hx hb dX0_rotate_141 (lv_at hl 4 rfl) ?_
          refine lv_iload hx hb dX0_rotate_143 (lv_at hl 5 rfl) ?_
          obtain ⟨hc, hq⟩ := hq
          refine w_iast hX hK hH (sf0_0 hs) hc dX0_rotate_145 (fun I1 H locs hI hH => ?_)
          have hq := hq I1 hI
          refine lv_aload_n hx hb dX0_rotate_146 rfl (lv_at hl 0 rfl) ?_
          refine w_getr hX hK hH ck0 hs 1 2 (k + 2) fr0_1 rfl q1_36 dX0_rotate_147 ?_
          refine lv_iload hx hb dX0_rotate_150 (lv_at hl 4 rfl) ?_
          refine lv_iload hx hb dX0_rotate_152 (lv_at hl 6 rfl) ?_
          obtain ⟨hc, hq⟩ := hq
          refine w_iast hX hK hH (sf0_1 hs) hc dX0_rotate_154 (fun I2 H locs hI hH => ?_)
          have hq := hq I2 hI
          exact s_X0_rotate_155 hs C0   _ _ _ _ hq hH (lv_sub hl [] rfl)
    · have hq := hq.2 hc
      refine lv_iload_n hx hb dX0_rotate_32 rfl (lv_at hl 2 rfl) ?_
      refine lv_if_eq (tgt := 43) hx hb dX0_rotate_33 (by decide) (fun hc => ?_) (fun hc => ?_)
      · have hq := hq.1 hc
        refine lv_iload hx hb dX0_rotate_43 (lv_at hl 7 rfl) ?_
        exact s_X0_rotate_45 hs C0 hK25 v4 v5 v6 v7 v8 v8 _ _ _ _ hq hH (lv_sub hl [0, 1, 2, 3, 4, 5, 6, 7] rfl)
      · have hq := hq.2 hc
        refine lv_iconst (v := 5) hx hb dX0_rotate_36 (by decide) ?_
        refine lv_iload hx hb dX0_rotate_37 (lv_at hl 7 rfl) ?_
        refine lv_isub hx hb dX0_rotate_39 ?_
        refine lv_goto (tgt := 45) hx hb dX0_rotate_40 (by decide) ?_
        exact s_X0_rotate_45 hs C0 hK25 v4 v5 v6 v7 v8 ((5 : Int32) - v8) _ _ _ _ hq hH (lv_sub hl [0, 1, 2, 3, 4, 5, 6, 7] rfl)
set_option maxRecDepth 100000 in
set_option maxHeartbeats 4000000 in
theorem s_X0_rotate_11 {k : Nat} {x1 : Int32} {x2 : Int32} {x3 : Int32} {Q : wI → Prop} (hs : wSh k = (0, 0)) (C0 : wCx p m c s args meth cX0_rotate 12 RX0 none D cs ad b) : ∀ (t0 : Int32) (I : wI) (H : Heap) (locs : List Loc) (ls : Array Slot), v_X0_rotate_11 k x1 x2 x3 Q t0 I → wH D cs b G I s H locs → lv_has ls 12 [(0, .ref (G.1 k)), (1, .int x1), (3, .int x3)] → W p l e rm_X0_rotate s m args below meth c H locs 0 0 (MQ below (va_Qv (Q) (wPo D cs b G) (fun q => b ≤ q)) args s 0 0 (fun q => b ≤ q)) (F0 m 11 ls [.int t0]) := by
  obtain ⟨hX, hr, hlk, hK, hE⟩ := id C0
  have hx := hX.1
  have hb := hX.2.1
  have hown := hX.2.2.2.1
  have hts := hX.2.2.2.2
  intro t0 I H locs ls hq hH hl
  unfold v_X0_rotate_11 at hq
  refine lv_istore (lv' := [(4, .int t0), (0, .ref (G.1 k)), (1, .int x1), (3, .int x3)]) hx hb dX0_rotate_11 hl (by decide) rfl (fun ls hl => ?_)
  refine lv_iconst (v := -1) hx hb dX0_rotate_13 (by decide) ?_
  refine lv_istore (lv' := [(5, .int (-1 : Int32)), (4, .int t0), (0, .ref (G.1 k)), (1, .int x1), (3, .int x3)]) hx hb dX0_rotate_14 hl (by decide) rfl (fun ls hl => ?_)
  refine lv_iconst (v := 0) hx hb dX0_rotate_16 (by decide) ?_
  refine lv_istore (lv' := [(6, .int (0 : Int32)), (5, .int (-1 : Int32)), (4, .int t0), (0, .ref (G.1 k)), (1, .int x1), (3, .int x3)]) hx hb dX0_rotate_17 hl (by decide) rfl (fun ls hl => ?_)
  refine lv_iconst (v := 0) hx hb dX0_rotate_19 (by decide) ?_
  refine lv_istore (lv' := [(7, .int (0 : Int32)), (6, .int (0 : Int32)), (5, .int (-1 : Int32)), (4, .int t0), (0, .ref (G.1 k)), (1, .int x1), (3, .int x3)]) hx hb dX0_rotate_20 hl (by decide) rfl (fun ls hl => ?_)
  refine lv_iconst (v := 0) hx hb dX0_rotate_22 (by decide) ?_
  refine lv_istore (lv' := [(8, .int (0 : Int32)), (7, .int (0 : Int32)), (6, .int (0 : Int32)), (5, .int (-1 : Int32)), (4, .int t0), (0, .ref (G.1 k)), (1, .int x1), (3, .int x3)]) hx hb dX0_rotate_23 hl (by decide) rfl (fun ls hl => ?_)
  obtain ⟨f, hq⟩ := hq
  exact s_X0_rotate_25 hs C0  f t0 (-1 : Int32) (0 : Int32) (0 : Int32) (0 : Int32) _ _ _ _ hq hH (lv_sub hl [5, 6, 7, 4, 3, 2, 1, 0] rfl)
set_option maxRecDepth 100000 in
set_option maxHeartbeats 4000000 in
theorem c_X0_rotate {l : Launch} {D : va_G} {cs : wC4} {ad : Nat → Nat} {b : Nat} {G : wG} {k : Nat} (hs : wSh k = (0, 0)) (x1 : Int32) (x2 : Int32) (x3 : Int32) (I : wI) (hp : pre_X0_rotate k x1 x2 x3 I) : Met l yX0_rotate (ws_ yX0_rotate cX0_rotate 12 none) rm_X0_rotate (va_Pc [.ref (G.1 k), .int x1, .int x2, .int x3] (wPr D cs ad b G I)) (va_Qv (fun I' => post_X0_rotate k x1 x2 x3 I I') (wPo D cs b G) (fun q => b ≤ q)) 0 0 (fun q => b ≤ q) := by
  have hq := vc_X0_rotate k x1 x2 x3 I hp
  refine w_met (by decide) (Nat.le_of_ble_eq_true rfl) ?_
  intro p e s m below meth c hX hr hlk hK hE hH ls hl
  have C0 : wCx p m c s _ meth cX0_rotate 12 RX0 none D cs ad b := ⟨hX, hr, hlk, hK, hE⟩
  have hX : CallFix p m c cX0_rotate 12 s _ lw_all RX0 := hX
  have hx := hX.1
  have hb := hX.2.1
  have hown := hX.2.2.2.1
  have hts := hX.2.2.2.2
  have hl : lv_has ls 12 [(0, .ref (G.1 k)), (1, .int x1), (2, .int x2), (3, .int x3)] := hl
  unfold v_X0_rotate at hq
  refine lv_iload_n hx hb dX0_rotate_0 rfl (lv_at hl 3 rfl) ?_
  refine lv_if_eq (tgt := 10) hx hb dX0_rotate_1 (by decide) (fun hc => ?_) (fun hc => ?_)
  · have hq := hq.1 hc
    refine lv_iload_n hx hb dX0_rotate_10 rfl (lv_at hl 2 rfl) ?_
    exact s_X0_rotate_11 hs C0  x2 _ _ _ _ hq hH (lv_sub hl [0, 1, 3] rfl)
  · have hq := hq.2 hc
    refine lv_iconst (v := 5) hx hb dX0_rotate_4 (by decide) ?_
    refine lv_iload_n hx hb dX0_rotate_5 rfl (lv_at hl 2 rfl) ?_
    refine lv_isub hx hb dX0_rotate_6 ?_
    refine lv_goto (tgt := 11) hx hb dX0_rotate_7 (by decide) ?_
    exact s_X0_rotate_11 hs C0  ((5 : Int32) - x2) _ _ _ _ hq hH (lv_sub hl [0, 1, 3] rfl)
end
