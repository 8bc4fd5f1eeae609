section
variable {p : Program} {l : Launch} {e : Env} {s : State} {m : MethodId} {args : Array Value} {below : List Frame} {meth : Method} {c : Code} {D : va_G} {cs : wC4} {ad : Nat → Nat} {b : Nat} {G : wG}
abbrev rm_X5_moveOf : Room := { frames := 0, cells := 0, slots := 0, locals := 0 }
theorem hd_X5_moveOf : yX5_moveOf.cls = RX5 ∧ yX5_moveOf.cls ≠ "java/lang/invoke/MethodHandle" ∧ yX5_moveOf.cls ≠ "java/lang/invoke/VarHandle" ∧ (parseMethodDescriptor yX5_moveOf.desc).map (fun d => d.parameters.length) = some 2 := by decide +kernel
set_option maxRecDepth 100000 in
set_option maxHeartbeats 4000000 in
theorem s_X5_moveOf_11 {x0 : Int32} {x1 : Int32} {I : wI} {Q : Int32 → Prop} (C0 : wCx p m c s args meth cX5_moveOf 2 RX5 (some .int) D cs ad b) : ∀ (t0 : Int32) (H : Heap) (locs : List Loc) (ls : Array Slot), v_X5_moveOf_11 x0 x1 I Q t0 → wH D cs b G I s H locs → lv_has ls 2 [] → W p l e rm_X5_moveOf s m args below meth c H locs 0 0 (MQ below (va_Qi (fun r I' => I' = I ∧ Q r) (wPo D cs b G) (fun q => b ≤ q)) args s 0 0 (fun q => b ≤ q)) (F0 m 11 ls [.int t0]) := by
  obtain ⟨hX, hr, hlk, hK, hE⟩ := id C0
  have hx := hX.1
  have hb := hX.2.1
  have hown := hX.2.2.2.1
  have hts := hX.2.2.2.2
  intro t0 H locs ls hq hH hl
  unfold v_X5_moveOf_11 at hq
  exact w_eI hX hr hlk hH ⟨rfl, hq⟩ dX5_moveOf_11
set_option maxRecDepth 100000 in
set_option maxHeartbeats 4000000 in
theorem c_X5_moveOf {l : Launch} {D : va_G} {cs : wC4} {ad : Nat → Nat} {b : Nat} {G : wG} (x0 : Int32) (x1 : Int32) (I : wI) (hp : pre_X5_moveOf x0 x1 I) : Met l yX5_moveOf (ws_ yX5_moveOf cX5_moveOf 2 (some .int)) rm_X5_moveOf (va_Pc [.int x0, .int x1] (wPr D cs ad b G I)) (va_Qi (fun r I' => I' = I ∧ post_X5_moveOf x0 x1 I r) (wPo D cs b G) (fun q => b ≤ q)) 0 0 (fun q => b ≤ q) := by
  have hq := vc_X5_moveOf x0 x1 I hp
  refine w_met (by decide) (Nat.le_of_ble_eq_true rfl) ?_
  intro p e s m below meth c hX hr hlk hK hE hH ls hl
  have C0 : wCx p m c s _ meth cX5_moveOf 2 RX5 (some .int) D cs ad b := ⟨hX, hr, hlk, hK, hE⟩
  have hX : CallFix p m c cX5_moveOf 2 s _ lw_all RX5 := hX
  have hx := hX.1
  have hb := hX.2.1
  have hown := hX.2.2.2.1
  have hts := hX.2.2.2.2
  have hl : lv_has ls 2 [(0, .int x0), (1, .int x1)] := hl
  unfold v_X5_moveOf at hq
  refine lv_iload_n hx hb dX5_moveOf_0 rfl (lv_at hl 1 rfl) ?_
  refine lv_if_eq (tgt := 10) hx hb dX5_moveOf_1 (by decide) (fun hc => ?_) (fun hc => ?_)
  · have hq := hq.1 hc
    refine lv_iload_n hx hb dX5_moveOf_10 rfl (lv_at hl 0 rfl) ?_
    exact s_X5_moveOf_11  C0  x0 _ _ _ hq hH (lv_sub hl [] rfl)
  · have hq := hq.2 hc
    refine lv_iconst (v := 5) hx hb dX5_moveOf_4 (by decide) ?_
    refine lv_iload_n hx hb dX5_moveOf_5 rfl (lv_at hl 0 rfl) ?_
    refine lv_iadd hx hb dX5_moveOf_6 ?_
    refine lv_goto (tgt := 11) hx hb dX5_moveOf_7 (by decide) ?_
    exact s_X5_moveOf_11  C0  ((5 : Int32) + x0) _ _ _ hq hH (lv_sub hl [] rfl)
abbrev rm_X5_keyOf : Room := { frames := 0, cells := 0, slots := 0, locals := 0 }
theorem hd_X5_keyOf : yX5_keyOf.cls = RX5 ∧ yX5_keyOf.cls ≠ "java/lang/invoke/MethodHandle" ∧ yX5_keyOf.cls ≠ "java/lang/invoke/VarHandle" ∧ (parseMethodDescriptor yX5_keyOf.desc).map (fun d => d.parameters.length) = some 1 := by decide +kernel
set_option maxRecDepth 100000 in
set_option maxHeartbeats 4000000 in
theorem s_X5_keyOf_12 {x0 : Int32} {I : wI} {Q : Int32 → Prop} (C0 : wCx p m c s args meth cX5_keyOf 1 RX5 (some .int) D cs ad b) : ∀ (t0 : Int32) (H : Heap) (locs : List Loc) (ls : Array Slot), v_X5_keyOf_12 x0 I Q t0 → wH D cs b G I s H locs → lv_has ls 1 [] → W p l e rm_X5_keyOf s m args below meth c H locs 0 0 (MQ below (va_Qi (fun r I' => I' = I ∧ Q r) (wPo D cs b G) (fun q => b ≤ q)) args s 0 0 (fun q => b ≤ q)) (F0 m 12 ls [.int t0]) := by
  obtain ⟨hX, hr, hlk, hK, hE⟩ := id C0
  have hx := hX.1
  have hb := hX.2.1
  have hown := hX.2.2.2.1
  have hts := hX.2.2.2.2
  intro t0 H locs ls hq hH hl
  unfold v_X5_keyOf_12 at hq
  exact w_eI hX hr hlk hH ⟨rfl, hq⟩ dX5_keyOf_12
set_option maxRecDepth 100000 in
set_option maxHeartbeats 4000000 in
theorem c_X5_keyOf {l : Launch} {D : va_G} {cs : wC4} {ad : Nat → Nat} {b : Nat} {G : wG} (x0 : Int32) (I : wI) (hp : pre_X5_keyOf x0 I) : Met l yX5_keyOf (ws_ yX5_keyOf cX5_keyOf 1 (some .int)) rm_X5_keyOf (va_Pc [.int x0] (wPr D cs ad b G I)) (va_Qi (fun r I' => I' = I ∧ post_X5_keyOf x0 I r) (wPo D cs b G) (fun q => b ≤ q)) 0 0 (fun q => b ≤ q) := by
  have hq := vc_X5_keyOf x0 I hp
  refine w_met (by decide) (Nat.le_of_ble_eq_true rfl) ?_
  intro p e s m below meth c hX hr hlk hK hE hH ls hl
  have C0 : wCx p m c s _ meth cX5_keyOf 1 RX5 (some .int) D cs ad b := ⟨hX, hr, hlk, hK, hE⟩
  have hX : CallFix p m c cX5_keyOf 1 s _ lw_all RX5 := hX
  have hx := hX.1
  have hb := hX.2.1
  have hown := hX.2.2.2.1
  have hts := hX.2.2.2.2
  have hl : lv_has ls 1 [(0, .int x0)] := hl
  unfold v_X5_keyOf at hq
  refine lv_iload_n hx hb dX5_keyOf_0 rfl (lv_at hl 0 rfl) ?_
  refine lv_iconst (v := 5) hx hb dX5_keyOf_1 (by decide) ?_
  refine lv_icmp_lt (tgt := 11) hx hb dX5_keyOf_2 (by decide) (fun hc => ?_) (fun hc => ?_)
  · have hq := hq.1 hc
    refine lv_iload_n hx hb dX5_keyOf_11 rfl (lv_at hl 0 rfl) ?_
    exact s_X5_keyOf_12  C0  x0 _ _ _ hq hH (lv_sub hl [] rfl)
  · have hq := hq.2 hc
    refine lv_iload_n hx hb dX5_keyOf_5 rfl (lv_at hl 0 rfl) ?_
    refine lv_iconst (v := 5) hx hb dX5_keyOf_6 (by decide) ?_
    refine lv_isub hx hb dX5_keyOf_7 ?_
    refine lv_goto (tgt := 12) hx hb dX5_keyOf_8 (by decide) ?_
    exact s_X5_keyOf_12  C0  (x0 - (5 : Int32)) _ _ _ hq hH (lv_sub hl [] rfl)
abbrev rm_X1_maskOf : Room := { frames := 0, cells := 0, slots := 0, locals := 0 }
theorem hd_X1_maskOf : yX1_maskOf.cls = RX1 ∧ yX1_maskOf.cls ≠ "java/lang/invoke/MethodHandle" ∧ yX1_maskOf.cls ≠ "java/lang/invoke/VarHandle" ∧ (parseMethodDescriptor yX1_maskOf.desc).map (fun d => d.parameters.length) = some 1 := by decide +kernel
set_option maxRecDepth 100000 in
set_option maxHeartbeats 4000000 in
theorem s_X1_maskOf_19 {k : Nat} {x1 : Int32} {I : wI} {Q : Int32 → Prop} (hs : wSh k = (0, 1)) (C0 : wCx p m c s args meth cX1_maskOf 2 RX1 (some .int) D cs ad b) : ∀ (t0 : Int32) (H : Heap) (locs : List Loc) (ls : Array Slot), v_X1_maskOf_19 k x1 I Q t0 → wH D cs b G I s H locs → lv_has ls 2 [] → W p l e rm_X1_maskOf s m args below meth c H locs 0 0 (MQ below (va_Qi (fun r I' => I' = I ∧ Q r) (wPo D cs b G) (fun q => b ≤ q)) args s 0 0 (fun q => b ≤ q)) (F0 m 19 ls [.int t0]) := by
  obtain ⟨hX, hr, hlk, hK, hE⟩ := id C0
  have hx := hX.1
  have hb := hX.2.1
  have hown := hX.2.2.2.1
  have hts := hX.2.2.2.2
  intro t0 H locs ls hq hH hl
  unfold v_X1_maskOf_19 at hq
  exact w_eI hX hr hlk hH ⟨rfl, hq⟩ dX1_maskOf_19
set_option maxRecDepth 100000 in
set_option maxHeartbeats 4000000 in
theorem s_X1_maskOf_18 {k : Nat} {x1 : Int32} {I : wI} {Q : Int32 → Prop} (hs : wSh k = (0, 1)) (C0 : wCx p m c s args meth cX1_maskOf 2 RX1 (some .int) D cs ad b) : ∀  (H : Heap) (locs : List Loc) (ls : Array Slot), v_X1_maskOf_18 k x1 I Q  → wH D cs b G I s H locs → lv_has ls 2 [] → W p l e rm_X1_maskOf s m args below meth c H locs 0 0 (MQ below (va_Qi (fun r I' => I' = I ∧ Q r) (wPo D cs b G) (fun q => b ≤ q)) args s 0 0 (fun q => b ≤ q)) (F0 m 18 ls []) := by
  obtain ⟨hX, hr, hlk, hK, hE⟩ := id C0
  have hx := hX.1
  have hb := hX.2.1
  have hown := hX.2.2.2.1
  have hts := hX.2.2.2.2
  intro  H locs ls hq hH hl
  unfold v_X1_maskOf_18 at hq
  refine lv_iconst (v := 0) hx hb dX1_maskOf_18 (by decide) ?_
  exact s_X1_maskOf_19 hs C0  (0 : Int32) _ _ _ hq hH (lv_sub hl [] rfl)
set_option maxRecDepth 100000 in
set_option maxHeartbeats 4000000 in
theorem c_X1_maskOf {l : Launch} {D : va_G} {cs : wC4} {ad : Nat → Nat} {b : Nat} {G : wG} {k : Nat} (hs : wSh k = (0, 1)) (x1 : Int32) (I : wI) (hp : pre_X1_maskOf k x1 I) : Met l yX1_maskOf (ws_ yX1_maskOf cX1_maskOf 2 (some .int)) rm_X1_maskOf (va_Pc [.ref (b + k), .int x1] (wPr D cs ad b G I)) (va_Qi (fun r I' => I' = I ∧ post_X1_maskOf k x1 I r) (wPo D cs b G) (fun q => b ≤ q)) 0 0 (fun q => b ≤ q) := by
  have hq := vc_X1_maskOf k x1 hs I hp
  refine w_met (by decide) (Nat.le_of_ble_eq_true rfl) ?_
  intro p e s m below meth c hX hr hlk hK hE hH ls hl
  have C0 : wCx p m c s _ meth cX1_maskOf 2 RX1 (some .int) D cs ad b := ⟨hX, hr, hlk, hK, hE⟩
  have hX : CallFix p m c cX1_maskOf 2 s _ lw_all RX1 := hX
  have hx := hX.1
  have hb := hX.2.1
  have hown := hX.2.2.2.1
  have hts := hX.2.2.2.2
  have hl : lv_has ls 2 [(0, .ref (b + k)), (1, .int x1)] := hl
  unfold v_X1_maskOf at hq
  refine lv_iload_n hx hb dX1_maskOf_0 rfl (lv_at hl 1 rfl) ?_
  refine lv_if_lt (tgt := 18) hx hb dX1_maskOf_1 (by decide) (fun hc => ?_) (fun hc => ?_)
  · have hq := hq.1 hc
    exact s_X1_maskOf_18 hs C0   _ _ _ hq hH (lv_sub hl [] rfl)
  · have hq := hq.2 hc
    refine lv_iload_n hx hb dX1_maskOf_4 rfl (lv_at hl 1 rfl) ?_
    refine lv_iconst (v := 5) hx hb dX1_maskOf_5 (by decide) ?_
    refine lv_icmp_ge (tgt := 18) hx hb dX1_maskOf_6 (by decide) (fun hc => ?_) (fun hc => ?_)
    · have hq := hq.1 hc
      exact s_X1_maskOf_18 hs C0   _ _ _ hq hH (lv_sub hl [] rfl)
    · have hq := hq.2 hc
      refine lv_aload_n hx hb dX1_maskOf_9 rfl (lv_at hl 0 rfl) ?_
      refine w_getr hX hK hH ck1 hs 0 1 (k + 1) fr1_0 rfl q1_52 dX1_maskOf_10 ?_
      refine lv_iload_n hx hb dX1_maskOf_13 rfl (lv_at hl 1 rfl) ?_
      obtain ⟨hc, hq⟩ := hq
      refine w_iald hX hK hH (sf1_0 hs) hc dX1_maskOf_14 ?_
      refine lv_goto (tgt := 19) hx hb dX1_maskOf_15 (by decide) ?_
      exact s_X1_maskOf_19 hs C0  (I (k + 1) (x1).toNatClampNeg) _ _ _ hq hH (lv_sub hl [] rfl)
abbrev rm_X3_allows : Room := { frames := 1, cells := 0, slots := 0, locals := 21 }
theorem hd_X3_allows : yX3_allows.cls = RX3 ∧ yX3_allows.cls ≠ "java/lang/invoke/MethodHandle" ∧ yX3_allows.cls ≠ "java/lang/invoke/VarHandle" ∧ (parseMethodDescriptor yX3_allows.desc).map (fun d => d.parameters.length) = some 1 := by decide +kernel
set_option maxRecDepth 100000 in
set_option maxHeartbeats 4000000 in
theorem s_X3_allows_24 {k : Nat} {x1 : Int32} {I : wI} {Q : Int32 → Prop} (hs : wSh k = (0, 3)) (C0 : wCx p m c s args meth cX3_allows 2 RX3 (some .boolean) D cs ad b) : ∀ (t0 : Int32) (H : Heap) (locs : List Loc) (ls : Array Slot), v_X3_allows_24 k x1 I Q t0 → wH D cs b G I s H locs → lv_has ls 2 [] → W p l e rm_X3_allows s m args below meth c H locs 0 0 (MQ below (va_Qi (fun r I' => I' = I ∧ Q r) (wPo D cs b G) (fun q => b ≤ q)) args s 0 0 (fun q => b ≤ q)) (F0 m 24 ls [.int t0]) := by
  obtain ⟨hX, hr, hlk, hK, hE⟩ := id C0
  have hx := hX.1
  have hb := hX.2.1
  have hown := hX.2.2.2.1
  have hts := hX.2.2.2.2
  intro t0 H locs ls hq hH hl
  unfold v_X3_allows_24 at hq
  obtain ⟨hz, hq⟩ := hq
  exact w_eZ hz hX hr hlk hH ⟨rfl, hq⟩ dX3_allows_24
set_option maxRecDepth 100000 in
set_option maxHeartbeats 4000000 in
theorem c_X3_allows {l : Launch} {D : va_G} {cs : wC4} {ad : Nat → Nat} {b : Nat} {G : wG} {k : Nat} (hs : wSh k = (0, 3)) (x1 : Int32) (I : wI) (hp : pre_X3_allows k x1 I) : Met l yX3_allows (ws_ yX3_allows cX3_allows 2 (some .boolean)) rm_X3_allows (va_Pc [.ref (b + k), .int x1] (wPr D cs ad b G I)) (va_Qi (fun r I' => I' = I ∧ post_X3_allows k x1 I r) (wPo D cs b G) (fun q => b ≤ q)) 0 0 (fun q => b ≤ q) := by
  have hq := vc_X3_allows k x1 hs I hp
  refine w_met (by decide) (Nat.le_of_ble_eq_true rfl) ?_
  intro p e s m below meth c hX hr hlk hK hE hH ls hl
  have C0 : wCx p m c s _ meth cX3_allows 2 RX3 (some .boolean) D cs ad b := ⟨hX, hr, hlk, hK, hE⟩
  have hX : CallFix p m c cX3_allows 2 s _ lw_all RX3 := hX
  have hx := hX.1
  have hb := hX.2.1
  have hown := hX.2.2.2.1
  have hts := hX.2.2.2.2
  have hl : lv_has ls 2 [(0, .ref (b + k)), (1, .int x1)] := hl
  unfold v_X3_allows at hq
  refine lv_aload_n hx hb dX3_allows_0 rfl (lv_at hl 0 rfl) ?_
  refine w_getr hX hK hH ck3 hs 1 4 (k + 4) fr3_1 rfl q1_62 dX3_allows_1 ?_
  refine lv_iload_n hx hb dX3_allows_4 rfl (lv_at hl 1 rfl) ?_
  obtain ⟨hp, hq⟩ := hq
  refine w_cIp hH (w_rSN (As := [.int x1]) (rest := [.ref (b + (k + 4))]) hX hK hE hH (c_X5_keyOf  _ _ hp) qn2_152 q2_76 q1_1 q2_77 hd_X5_keyOf.2 ⟨Nat.le_of_ble_eq_true rfl, Nat.le_of_ble_eq_true rfl⟩ ⟨rfl, rfl⟩ rfl hl.1 rfl (Nat.le_of_ble_eq_true rfl) dX3_allows_5 ⟨Nat.zero_le _, Nat.zero_le _⟩) (fun r1  H locs hpo hH => ?_)
  have hq := hq r1  hpo
  obtain ⟨hp, hq⟩ := hq
  refine w_cIp hH (w_rV (As := [.int r1]) (rest := []) hX hK hE hH (c_X1_maskOf (sf3_1 hs) _ _ hp) ck1 (sf3_1 hs) q2_153 q2_100 q2_101 q1_4 q2_102 hd_X1_maskOf ⟨Nat.le_of_ble_eq_true rfl, Nat.le_of_ble_eq_true rfl⟩ ⟨rfl, rfl⟩ rfl hl.1 rfl (Nat.le_of_ble_eq_true rfl) dX3_allows_8 ⟨Nat.zero_le _, Nat.zero_le _⟩) (fun r2  H locs hpo hH => ?_)
  have hq := hq r2  hpo
  refine lv_aload_n hx hb dX3_allows_11 rfl (lv_at hl 0 rfl) ?_
  refine w_geti hX hK hH ck3 hs 4 fi3_4 q1_71 dX3_allows_12 ?_
  refine lv_iand hx hb dX3_allows_15 ?_
  refine lv_if_ne (tgt := 23) hx hb dX3_allows_16 (by decide) (fun hc => ?_) (fun hc => ?_)
  · have hq := hq.1 hc
    refine lv_iconst (v := 0) hx hb dX3_allows_23 (by decide) ?_
    exact s_X3_allows_24 hs C0  (0 : Int32) _ _ _ hq hH (lv_sub hl [] rfl)
  · have hq := hq.2 hc
    refine lv_iconst (v := 1) hx hb dX3_allows_19 (by decide) ?_
    refine lv_goto (tgt := 24) hx hb dX3_allows_20 (by decide) ?_
    exact s_X3_allows_24 hs C0  (1 : Int32) _ _ _ hq hH (lv_sub hl [] rfl)
abbrev rm_X0_copyFrom : Room := { frames := 0, cells := 0, slots := 0, locals := 0 }
theorem hd_X0_copyFrom : yX0_copyFrom.cls = RX0 ∧ yX0_copyFrom.cls ≠ "java/lang/invoke/MethodHandle" ∧ yX0_copyFrom.cls ≠ "java/lang/invoke/VarHandle" ∧ (parseMethodDescriptor yX0_copyFrom.desc).map (fun d => d.parameters.length) = some 1 := by decide +kernel
set_option maxRecDepth 100000 in
set_option maxHeartbeats 4000000 in
theorem s_X0_copyFrom_2 {k : Nat} {k1 : Nat} {Q : wI → Prop} (hs : wSh k = (0, 0)) (hs1 : wSh k1 = (0, 0)) (C0 : wCx p m c s args meth cX0_copyFrom 3 RX0 none D cs ad b) : ∀ (f : Nat) (v2 : Int32) (I : wI) (H : Heap) (locs : List Loc) (ls : Array Slot), v_X0_copyFrom_2 k k1 Q f v2 I → wH D cs b G I s H locs → lv_has ls 3 [(0, .ref (b + k)), (1, .ref (b + k1)), (2, .int v2)] → W p l e rm_X0_copyFrom s m args below meth c H locs 0 0 (MQ below (va_Qv (Q) (wPo D cs b G) (fun q => b ≤ q)) args s 0 0 (fun q => b ≤ q)) (F0 m 2 ls []) := by
  obtain ⟨hX, hr, hlk, hK, hE⟩ := id C0
  have hx := hX.1
  have hb := hX.2.1
  have hown := hX.2.2.2.1
  have hts := hX.2.2.2.2
  intro f
  induction f with
  | zero =>
    intro v2 I H locs ls hq
    exact hq.elim
  | succ f hK2 =>
    intro v2 I H locs ls hq hH hl
    have hq : g_X0_copyFrom_2 k k1 Q (v_X0_copyFrom_2 k k1 Q f) v2 I := hq
    unfold g_X0_copyFrom_2 at hq
    refine lv_iload_n hx hb dX0_copyFrom_2 rfl (lv_at hl 2 rfl) ?_
    refine lv_bipush (v := 6) hx hb dX0_copyFrom_3 (by decide) ?_
    refine lv_icmp_ge (tgt := 38) hx hb dX0_copyFrom_5 (by decide) (fun hc => ?_) (fun hc => ?_)
    · have hq := hq.1 hc
      exact w_eV hX hr hlk hH hq dX0_copyFrom_38
    · have hq := hq.2 hc
      refine lv_aload_n hx hb dX0_copyFrom_8 rfl (lv_at hl 0 rfl) ?_
      refine w_getr hX hK hH ck0 hs 0 1 (k + 1) fr0_0 rfl q1_38 dX0_copyFrom_9 ?_
      refine lv_iload_n hx hb dX0_copyFrom_12 rfl (lv_at hl 2 rfl) ?_
      refine lv_aload_n hx hb dX0_copyFrom_13 rfl (lv_at hl 1 rfl) ?_
      refine w_getr hX hK hH ck0 hs1 0 1 (k1 + 1) fr0_0 rfl q1_38 dX0_copyFrom_14 ?_
      refine lv_iload_n hx hb dX0_copyFrom_17 rfl (lv_at hl 2 rfl) ?_
      obtain ⟨hc, hq⟩ := hq
      refine w_iald hX hK hH (sf0_0 hs1) hc dX0_copyFrom_18 ?_
      obtain ⟨hc, hq⟩ := hq
      refine w_iast hX hK hH (sf0_0 hs) hc dX0_copyFrom_19 (fun I1 H locs hI hH => ?_)
      have hq := hq I1 hI
      refine lv_aload_n hx hb dX0_copyFrom_20 rfl (lv_at hl 0 rfl) ?_
      refine w_getr hX hK hH ck0 hs 1 2 (k + 2) fr0_1 rfl q1_39 dX0_copyFrom_21 ?_
      refine lv_iload_n hx hb dX0_copyFrom_24 rfl (lv_at hl 2 rfl) ?_
      refine lv_aload_n hx hb dX0_copyFrom_25 rfl (lv_at hl 1 rfl) ?_
      refine w_getr hX hK hH ck0 hs1 1 2 (k1 + 2) fr0_1 rfl q1_39 dX0_copyFrom_26 ?_
      refine lv_iload_n hx hb dX0_copyFrom_29 rfl (lv_at hl 2 rfl) ?_
      obtain ⟨hc, hq⟩ := hq
      refine w_iald hX hK hH (sf0_1 hs1) hc dX0_copyFrom_30 ?_
      obtain ⟨hc, hq⟩ := hq
      refine w_iast hX hK hH (sf0_1 hs) hc dX0_copyFrom_31 (fun I2 H locs hI hH => ?_)
      have hq := hq I2 hI
      refine lv_iinc (v := (v2 + (1 : Int32))) (lv' := [(2, .int (v2 + (1 : Int32))), (0, .ref (b + k)), (1, .ref (b + k1))]) hx hb dX0_copyFrom_32 hl (k := 2) rfl rfl (by decide) rfl (fun ls hl => ?_)
      refine lv_goto (tgt := 2) hx hb dX0_copyFrom_35 (by decide) ?_
      exact hK2 (v2 + (1 : Int32)) _ _ _ _ hq hH (lv_sub hl [1, 2, 0] rfl)
set_option maxRecDepth 100000 in
set_option maxHeartbeats 4000000 in
theorem c_X0_copyFrom {l : Launch} {D : va_G} {cs : wC4} {ad : Nat → Nat} {b : Nat} {G : wG} {k : Nat} {k1 : Nat} (hs : wSh k = (0, 0)) (hs1 : wSh k1 = (0, 0))  (I : wI) (hp : pre_X0_copyFrom k k1 I) : Met l yX0_copyFrom (ws_ yX0_copyFrom cX0_copyFrom 3 none) rm_X0_copyFrom (va_Pc [.ref (b + k), .ref (b + k1)] (wPr D cs ad b G I)) (va_Qv (fun I' => post_X0_copyFrom k k1 I I') (wPo D cs b G) (fun q => b ≤ q)) 0 0 (fun q => b ≤ q) := by
  have hq := vc_X0_copyFrom k k1 hs hs1 I hp
  refine w_met (by decide) (Nat.le_of_ble_eq_true rfl) ?_
  intro p e s m below meth c hX hr hlk hK hE hH ls hl
  have C0 : wCx p m c s _ meth cX0_copyFrom 3 RX0 none D cs ad b := ⟨hX, hr, hlk, hK, hE⟩
  have hX : CallFix p m c cX0_copyFrom 3 s _ lw_all RX0 := hX
  have hx := hX.1
  have hb := hX.2.1
  have hown := hX.2.2.2.1
  have hts := hX.2.2.2.2
  have hl : lv_has ls 3 [(0, .ref (b + k)), (1, .ref (b + k1))] := hl
  unfold v_X0_copyFrom at hq
  refine lv_iconst (v := 0) hx hb dX0_copyFrom_0 (by decide) ?_
  refine lv_istore_n (lv' := [(2, .int (0 : Int32)), (0, .ref (b + k)), (1, .ref (b + k1))]) hx hb dX0_copyFrom_1 rfl hl (by decide) rfl (fun ls hl => ?_)
  obtain ⟨f, hq⟩ := hq
  exact s_X0_copyFrom_2 hs hs1 C0  f (0 : Int32) _ _ _ _ hq hH (lv_sub hl [1, 2, 0] rfl)
abbrev rm_X1_copyFrom : Room := { frames := 0, cells := 0, slots := 0, locals := 0 }
theorem hd_X1_copyFrom : yX1_copyFrom.cls = RX1 ∧ yX1_copyFrom.cls ≠ "java/lang/invoke/MethodHandle" ∧ yX1_copyFrom.cls ≠ "java/lang/invoke/VarHandle" ∧ (parseMethodDescriptor yX1_copyFrom.desc).map (fun d => d.parameters.length) = some 1 := by decide +kernel
set_option maxRecDepth 100000 in
set_option maxHeartbeats 4000000 in
theorem s_X1_copyFrom_2 {k : Nat} {k1 : Nat} {Q : wI → Prop} (hs : wSh k = (0, 1)) (hs1 : wSh k1 = (0, 1)) (C0 : wCx p m c s args meth cX1_copyFrom 3 RX1 none D cs ad b) : ∀ (f : Nat) (v2 : Int32) (I : wI) (H : Heap) (locs : List Loc) (ls : Array Slot), v_X1_copyFrom_2 k k1 Q f v2 I → wH D cs b G I s H locs → lv_has ls 3 [(0, .ref (b + k)), (1, .ref (b + k1)), (2, .int v2)] → W p l e rm_X1_copyFrom s m args below meth c H locs 0 0 (MQ below (va_Qv (Q) (wPo D cs b G) (fun q => b ≤ q)) args s 0 0 (fun q => b ≤ q)) (F0 m 2 ls []) := by
  obtain ⟨hX, hr, hlk, hK, hE⟩ := id C0
  have hx := hX.1
  have hb := hX.2.1
  have hown := hX.2.2.2.1
  have hts := hX.2.2.2.2
  intro f
  induction f with
  | zero =>
    intro v2 I H locs ls hq
    exact hq.elim
  | succ f hK2 =>
    intro v2 I H locs ls hq hH hl
    have hq : g_X1_copyFrom_2 k k1 Q (v_X1_copyFrom_2 k k1 Q f) v2 I := hq
    unfold g_X1_copyFrom_2 at hq
    refine lv_iload_n hx hb dX1_copyFrom_2 rfl (lv_at hl 2 rfl) ?_
    refine lv_iconst (v := 5) hx hb dX1_copyFrom_3 (by decide) ?_
    refine lv_icmp_ge (tgt := 37) hx hb dX1_copyFrom_4 (by decide) (fun hc => ?_) (fun hc => ?_)
    · have hq := hq.1 hc
      exact w_eV hX hr hlk hH hq dX1_copyFrom_37
    · have hq := hq.2 hc
      refine lv_aload_n hx hb dX1_copyFrom_7 rfl (lv_at hl 0 rfl) ?_
      refine w_getr hX hK hH ck1 hs 0 1 (k + 1) fr1_0 rfl q1_52 dX1_copyFrom_8 ?_
      refine lv_iload_n hx hb dX1_copyFrom_11 rfl (lv_at hl 2 rfl) ?_
      refine lv_aload_n hx hb dX1_copyFrom_12 rfl (lv_at hl 1 rfl) ?_
      refine w_getr hX hK hH ck1 hs1 0 1 (k1 + 1) fr1_0 rfl q1_52 dX1_copyFrom_13 ?_
      refine lv_iload_n hx hb dX1_copyFrom_16 rfl (lv_at hl 2 rfl) ?_
      obtain ⟨hc, hq⟩ := hq
      refine w_iald hX hK hH (sf1_0 hs1) hc dX1_copyFrom_17 ?_
      obtain ⟨hc, hq⟩ := hq
      refine w_iast hX hK hH (sf1_0 hs) hc dX1_copyFrom_18 (fun I1 H locs hI hH => ?_)
      have hq := hq I1 hI
      refine lv_aload_n hx hb dX1_copyFrom_19 rfl (lv_at hl 0 rfl) ?_
      refine w_getr hX hK hH ck1 hs 1 2 (k + 2) fr1_1 rfl q1_53 dX1_copyFrom_20 ?_
      refine lv_iload_n hx hb dX1_copyFrom_23 rfl (lv_at hl 2 rfl) ?_
      refine lv_aload_n hx hb dX1_copyFrom_24 rfl (lv_at hl 1 rfl) ?_
      refine w_getr hX hK hH ck1 hs1 1 2 (k1 + 2) fr1_1 rfl q1_53 dX1_copyFrom_25 ?_
      refine lv_iload_n hx hb dX1_copyFrom_28 rfl (lv_at hl 2 rfl) ?_
      obtain ⟨hc, hq⟩ := hq
      refine w_iald hX hK hH (sf1_1 hs1) hc dX1_copyFrom_29 ?_
      obtain ⟨hc, hq⟩ := hq
      refine w_iast hX hK hH (sf1_1 hs) hc dX1_copyFrom_30 (fun I2 H locs hI hH => ?_)
      have hq := hq I2 hI
      refine lv_iinc (v := (v2 + (1 : Int32))) (lv' := [(2, .int (v2 + (1 : Int32))), (0, .ref (b + k)), (1, .ref (b + k1))]) hx hb dX1_copyFrom_31 hl (k := 2) rfl rfl (by decide) rfl (fun ls hl => ?_)
      refine lv_goto (tgt := 2) hx hb dX1_copyFrom_34 (by decide) ?_
      exact hK2 (v2 + (1 : Int32)) _ _ _ _ hq hH (lv_sub hl [1, 2, 0] rfl)
set_option maxRecDepth 100000 in
set_option maxHeartbeats 4000000 in
theorem c_X1_copyFrom {l : Launch} {D : va_G} {cs : wC4} {ad : Nat → Nat} {b : Nat} {G : wG} {k : Nat} {k1 : Nat} (hs : wSh k = (0, 1)) (hs1 : wSh k1 = (0, 1))  (I : wI) (hp : pre_X1_copyFrom k k1 I) : Met l yX1_copyFrom (ws_ yX1_copyFrom cX1_copyFrom 3 none) rm_X1_copyFrom (va_Pc [.ref (b + k), .ref (b + k1)] (wPr D cs ad b G I)) (va_Qv (fun I' => post_X1_copyFrom k k1 I I') (wPo D cs b G) (fun q => b ≤ q)) 0 0 (fun q => b ≤ q) := by
  have hq := vc_X1_copyFrom k k1 hs hs1 I hp
  refine w_met (by decide) (Nat.le_of_ble_eq_true rfl) ?_
  intro p e s m below meth c hX hr hlk hK hE hH ls hl
  have C0 : wCx p m c s _ meth cX1_copyFrom 3 RX1 none D cs ad b := ⟨hX, hr, hlk, hK, hE⟩
  have hX : CallFix p m c cX1_copyFrom 3 s _ lw_all RX1 := hX
  have hx := hX.1
  have hb := hX.2.1
  have hown := hX.2.2.2.1
  have hts := hX.2.2.2.2
  have hl : lv_has ls 3 [(0, .ref (b + k)), (1, .ref (b + k1))] := hl
  unfold v_X1_copyFrom at hq
  refine lv_iconst (v := 0) hx hb dX1_copyFrom_0 (by decide) ?_
  refine lv_istore_n (lv' := [(2, .int (0 : Int32)), (0, .ref (b + k)), (1, .ref (b + k1))]) hx hb dX1_copyFrom_1 rfl hl (by decide) rfl (fun ls hl => ?_)
  obtain ⟨f, hq⟩ := hq
  exact s_X1_copyFrom_2 hs hs1 C0  f (0 : Int32) _ _ _ _ hq hH (lv_sub hl [1, 2, 0] rfl)
abbrev rm_X3_copyFrom : Room := { frames := 1, cells := 0, slots := 0, locals := 22 }
theorem hd_X3_copyFrom : yX3_copyFrom.cls = RX3 ∧ yX3_copyFrom.cls ≠ "java/lang/invoke/MethodHandle" ∧ yX3_copyFrom.cls ≠ "java/lang/invoke/VarHandle" ∧ (parseMethodDescriptor yX3_copyFrom.desc).map (fun d => d.parameters.length) = some 1 := by decide +kernel
set_option maxRecDepth 100000 in
set_option maxHeartbeats 4000000 in
theorem s_X3_copyFrom_51 {k : Nat} {k1 : Nat} {Q : wI → Prop} (hs : wSh k = (0, 3)) (hs1 : wSh k1 = (0, 3)) (C0 : wCx p m c s args meth cX3_copyFrom 3 RX3 none D cs ad b) : ∀ (f : Nat) (v2 : Int32) (I : wI) (H : Heap) (locs : List Loc) (ls : Array Slot), v_X3_copyFrom_51 k k1 Q f v2 I → wH D cs b G I s H locs → lv_has ls 3 [(0, .ref (b + k)), (1, .ref (b + k1)), (2, .int v2)] → W p l e rm_X3_copyFrom s m args below meth c H locs 0 0 (MQ below (va_Qv (Q) (wPo D cs b G) (fun q => b ≤ q)) args s 0 0 (fun q => b ≤ q)) (F0 m 51 ls []) := by
  obtain ⟨hX, hr, hlk, hK, hE⟩ := id C0
  have hx := hX.1
  have hb := hX.2.1
  have hown := hX.2.2.2.1
  have hts := hX.2.2.2.2
  intro f
  induction f with
  | zero =>
    intro v2 I H locs ls hq
    exact hq.elim
  | succ f hK51 =>
    intro v2 I H locs ls hq hH hl
    have hq : g_X3_copyFrom_51 k k1 Q (v_X3_copyFrom_51 k k1 Q f) v2 I := hq
    unfold g_X3_copyFrom_51 at hq
    refine lv_iload_n hx hb dX3_copyFrom_51 rfl (lv_at hl 2 rfl) ?_
    refine lv_iconst (v := 5) hx hb dX3_copyFrom_52 (by decide) ?_
    refine lv_icmp_ge (tgt := 74) hx hb dX3_copyFrom_53 (by decide) (fun hc => ?_) (fun hc => ?_)
    · have hq := hq.1 hc
      refine lv_aload_n hx hb dX3_copyFrom_74 rfl (lv_at hl 0 rfl) ?_
      refine lv_aload_n hx hb dX3_copyFrom_75 rfl (lv_at hl 1 rfl) ?_
      refine w_geti hX hK hH ck3 hs1 6 fi3_6 q1_74 dX3_copyFrom_76 ?_
      refine w_puti hX hK hH ck3 hs 6 fw3_6 q1_74 dX3_copyFrom_79 (fun I1 H locs hI hH => ?_)
      have hq := hq I1 hI
      refine lv_aload_n hx hb dX3_copyFrom_82 rfl (lv_at hl 0 rfl) ?_
      refine lv_aload_n hx hb dX3_copyFrom_83 rfl (lv_at hl 1 rfl) ?_
      refine w_geti hX hK hH ck3 hs1 7 fi3_7 q1_76 dX3_copyFrom_84 ?_
      refine w_puti hX hK hH ck3 hs 7 fw3_7 q1_76 dX3_copyFrom_87 (fun I2 H locs hI hH => ?_)
      have hq := hq I2 hI
      refine lv_aload_n hx hb dX3_copyFrom_90 rfl (lv_at hl 0 rfl) ?_
      refine lv_aload_n hx hb dX3_copyFrom_91 rfl (lv_at hl 1 rfl) ?_
      refine w_geti hX hK hH ck3 hs1 8 fi3_8 q1_78 dX3_copyFrom_92 ?_
      refine w_puti hX hK hH ck3 hs 8 fw3_8 q1_78 dX3_copyFrom_95 (fun I3 H locs hI hH => ?_)
      have hq := hq I3 hI
      exact w_eV hX hr hlk hH hq dX3_copyFrom_98
    · have hq := hq.2 hc
      refine lv_aload_n hx hb dX3_copyFrom_56 rfl (lv_at hl 0 rfl) ?_
      refine w_getr hX hK hH ck3 hs 5 10 (k + 10) fr3_5 rfl q1_73 dX3_copyFrom_57 ?_
      refine lv_iload_n hx hb dX3_copyFrom_60 rfl (lv_at hl 2 rfl) ?_
      refine lv_aload_n hx hb dX3_copyFrom_61 rfl (lv_at hl 1 rfl) ?_
      refine w_getr hX hK hH ck3 hs1 5 10 (k1 + 10) fr3_5 rfl q1_73 dX3_copyFrom_62 ?_
      refine lv_iload_n hx hb dX3_copyFrom_65 rfl (lv_at hl 2 rfl) ?_
      obtain ⟨hc, hq⟩ := hq
      refine w_iald hX hK hH (sf3_5 hs1) hc dX3_copyFrom_66 ?_
      obtain ⟨hc, hq⟩ := hq
      refine w_iast hX hK hH (sf3_5 hs) hc dX3_copyFrom_67 (fun I4 H locs hI hH => ?_)
      have hq := hq I4 hI
      refine lv_iinc (v := (v2 + (1 : Int32))) (lv' := [(2, .int (v2 + (1 : Int32))), (0, .ref (b + k)), (1, .ref (b + k1))]) hx hb dX3_copyFrom_68 hl (k := 2) rfl rfl (by decide) rfl (fun ls hl => ?_)
      refine lv_goto (tgt := 51) hx hb dX3_copyFrom_71 (by decide) ?_
      exact hK51 (v2 + (1 : Int32)) _ _ _ _ hq hH (lv_sub hl [1, 2, 0] rfl)
set_option maxRecDepth 100000 in
set_option maxHeartbeats 4000000 in
theorem c_X3_copyFrom {l : Launch} {D : va_G} {cs : wC4} {ad : Nat → Nat} {b : Nat} {G : wG} {k : Nat} {k1 : Nat} (hs : wSh k = (0, 3)) (hs1 : wSh k1 = (0, 3))  (I : wI) (hp : pre_X3_copyFrom k k1 I) : Met l yX3_copyFrom (ws_ yX3_copyFrom cX3_copyFrom 3 none) rm_X3_copyFrom (va_Pc [.ref (b + k), .ref (b + k1)] (wPr D cs ad b G I)) (va_Qv (fun I' => post_X3_copyFrom k k1 I I') (wPo D cs b G) (fun q => b ≤ q)) 0 0 (fun q => b ≤ q) := by
  have hq := vc_X3_copyFrom k k1 hs hs1 I hp
  refine w_met (by decide) (Nat.le_of_ble_eq_true rfl) ?_
  intro p e s m below meth c hX hr hlk hK hE hH ls hl
  have C0 : wCx p m c s _ meth cX3_copyFrom 3 RX3 none D cs ad b := ⟨hX, hr, hlk, hK, hE⟩
  have hX : CallFix p m c cX3_copyFrom 3 s _ lw_all RX3 := hX
  have hx := hX.1
  have hb := hX.2.1
  have hown := hX.2.2.2.1
  have hts := hX.2.2.2.2
  have hl : lv_has ls 3 [(0, .ref (b + k)), (1, .ref (b + k1))] := hl
  unfold v_X3_copyFrom at hq
  refine lv_aload_n hx hb dX3_copyFrom_0 rfl (lv_at hl 0 rfl) ?_
  refine w_getr hX hK hH ck3 hs 0 1 (k + 1) fr3_0 rfl q1_59 dX3_copyFrom_1 ?_
  refine lv_aload_n hx hb dX3_copyFrom_4 rfl (lv_at hl 1 rfl) ?_
  refine w_getr hX hK hH ck3 hs1 0 1 (k1 + 1) fr3_0 rfl q1_59 dX3_copyFrom_5 ?_
  obtain ⟨hp, hq⟩ := hq
  refine w_cV hH (w_rV (As := [.ref (b + (k1 + 1))]) (rest := []) hX hK hE hH (c_X0_copyFrom (sf3_0 hs) (sf3_0 hs1)  _ hp) ck0 (sf3_0 hs) q1_226 q1_227 q1_228 q1_3 q1_229 hd_X0_copyFrom ⟨Nat.le_of_ble_eq_true rfl, Nat.le_of_ble_eq_true rfl⟩ ⟨rfl, rfl⟩ rfl hl.1 rfl (Nat.le_of_ble_eq_true rfl) dX3_copyFrom_8 ⟨Nat.zero_le _, Nat.zero_le _⟩) (fun  I1 H locs hpo hH => ?_)
  have hq := hq  I1 hpo
  refine lv_aload_n hx hb dX3_copyFrom_11 rfl (lv_at hl 0 rfl) ?_
  refine w_getr hX hK hH ck3 hs 1 4 (k + 4) fr3_1 rfl q1_62 dX3_copyFrom_12 ?_
  refine lv_aload_n hx hb dX3_copyFrom_15 rfl (lv_at hl 1 rfl) ?_
  refine w_getr hX hK hH ck3 hs1 1 4 (k1 + 4) fr3_1 rfl q1_62 dX3_copyFrom_16 ?_
  obtain ⟨hp, hq⟩ := hq
  refine w_cV hH (w_rV (As := [.ref (b + (k1 + 4))]) (rest := []) hX hK hE hH (c_X1_copyFrom (sf3_1 hs) (sf3_1 hs1)  _ hp) ck1 (sf3_1 hs) q1_230 q1_231 q1_232 q1_4 q1_233 hd_X1_copyFrom ⟨Nat.le_of_ble_eq_true rfl, Nat.le_of_ble_eq_true rfl⟩ ⟨rfl, rfl⟩ rfl hl.1 rfl (Nat.le_of_ble_eq_true rfl) dX3_copyFrom_19 ⟨Nat.zero_le _, Nat.zero_le _⟩) (fun  I2 H locs hpo hH => ?_)
  have hq := hq  I2 hpo
  refine lv_aload_n hx hb dX3_copyFrom_22 rfl (lv_at hl 0 rfl) ?_
  refine w_getr hX hK hH ck3 hs 2 7 (k + 7) fr3_2 rfl q1_65 dX3_copyFrom_23 ?_
  refine lv_aload_n hx hb dX3_copyFrom_26 rfl (lv_at hl 1 rfl) ?_
  refine w_getr hX hK hH ck3 hs1 2 7 (k1 + 7) fr3_2 rfl q1_65 dX3_copyFrom_27 ?_
  obtain ⟨hp, hq⟩ := hq
  refine w_cV hH (w_rV (As := [.ref (b + (k1 + 7))]) (rest := []) hX hK hE hH (c_X0_copyFrom (sf3_2 hs) (sf3_2 hs1)  _ hp) ck0 (sf3_2 hs) q1_226 q1_227 q1_228 q1_3 q1_229 hd_X0_copyFrom ⟨Nat.le_of_ble_eq_true rfl, Nat.le_of_ble_eq_true rfl⟩ ⟨rfl, rfl⟩ rfl hl.1 rfl (Nat.le_of_ble_eq_true rfl) dX3_copyFrom_30 ⟨Nat.zero_le _, Nat.zero_le _⟩) (fun  I3 H locs hpo hH => ?_)
  have hq := hq  I3 hpo
  refine lv_aload_n hx hb dX3_copyFrom_33 rfl (lv_at hl 0 rfl) ?_
  refine lv_aload_n hx hb dX3_copyFrom_34 rfl (lv_at hl 1 rfl) ?_
  refine w_geti hX hK hH ck3 hs1 3 fi3_3 q1_68 dX3_copyFrom_35 ?_
  obtain ⟨hz, hq⟩ := hq
  refine w_putz hz hX hK hH ck3 hs 3 fw3_3 q1_68 dX3_copyFrom_38 (fun I4 H locs hI hH => ?_)
  have hq := hq I4 hI
  refine lv_aload_n hx hb dX3_copyFrom_41 rfl (lv_at hl 0 rfl) ?_
  refine lv_aload_n hx hb dX3_copyFrom_42 rfl (lv_at hl 1 rfl) ?_
  refine w_geti hX hK hH ck3 hs1 4 fi3_4 q1_71 dX3_copyFrom_43 ?_
  refine w_puti hX hK hH ck3 hs 4 fw3_4 q1_71 dX3_copyFrom_46 (fun I5 H locs hI hH => ?_)
  have hq := hq I5 hI
  refine lv_iconst (v := 0) hx hb dX3_copyFrom_49 (by decide) ?_
  refine lv_istore_n (lv' := [(2, .int (0 : Int32)), (0, .ref (b + k)), (1, .ref (b + k1))]) hx hb dX3_copyFrom_50 rfl hl (by decide) rfl (fun ls hl => ?_)
  obtain ⟨f, hq⟩ := hq
  exact s_X3_copyFrom_51 hs hs1 C0  f (0 : Int32) _ _ _ _ hq hH (lv_sub hl [1, 2, 0] rfl)
abbrev rm_X0_agreeing : Room := { frames := 0, cells := 0, slots := 0, locals := 0 }
theorem hd_X0_agreeing : yX0_agreeing.cls = RX0 ∧ yX0_agreeing.cls ≠ "java/lang/invoke/MethodHandle" ∧ yX0_agreeing.cls ≠ "java/lang/invoke/VarHandle" ∧ (parseMethodDescriptor yX0_agreeing.desc).map (fun d => d.parameters.length) = some 1 := by decide +kernel
set_option maxRecDepth 100000 in
set_option maxHeartbeats 4000000 in
theorem s_X0_agreeing_43 {k : Nat} {k1 : Nat} {I : wI} {Q : Int32 → Prop} {K4 : Int32 → Int32 → Prop} (hs : wSh k = (0, 0)) (hs1 : wSh k1 = (0, 0)) (C0 : wCx p m c s args meth cX0_agreeing 4 RX0 (some .int) D cs ad b) (hK4 : ∀ (v2 : Int32) (v3 : Int32) (H : Heap) (locs : List Loc) (ls : Array Slot), K4 v2 v3 → wH D cs b G I s H locs → lv_has ls 4 [(0, .ref (b + k)), (1, .ref (b + k1)), (2, .int v2), (3, .int v3)] → W p l e rm_X0_agreeing s m args below meth c H locs 0 0 (MQ below (va_Qi (fun r I' => I' = I ∧ Q r) (wPo D cs b G) (fun q => b ≤ q)) args s 0 0 (fun q => b ≤ q)) (F0 m 4 ls [])) : ∀ (v2 : Int32) (v3 : Int32) (H : Heap) (locs : List Loc) (ls : Array Slot), v_X0_agreeing_43 k k1 I Q K4 v2 v3 → wH D cs b G I s H locs → lv_has ls 4 [(0, .ref (b + k)), (1, .ref (b + k1)), (2, .int v2), (3, .int v3)] → W p l e rm_X0_agreeing s m args below meth c H locs 0 0 (MQ below (va_Qi (fun r I' => I' = I ∧ Q r) (wPo D cs b G) (fun q => b ≤ q)) args s 0 0 (fun q => b ≤ q)) (F0 m 43 ls []) := by
  obtain ⟨hX, hr, hlk, hK, hE⟩ := id C0
  have hx := hX.1
  have hb := hX.2.1
  have hown := hX.2.2.2.1
  have hts := hX.2.2.2.2
  intro v2 v3 H locs ls hq hH hl
  unfold v_X0_agreeing_43 at hq
  refine lv_iinc (v := (v3 + (1 : Int32))) (lv' := [(3, .int (v3 + (1 : Int32))), (0, .ref (b + k)), (1, .ref (b + k1)), (2, .int v2)]) hx hb dX0_agreeing_43 hl (k := 3) rfl rfl (by decide) rfl (fun ls hl => ?_)
  refine lv_goto (tgt := 4) hx hb dX0_agreeing_46 (by decide) ?_
  exact hK4 v2 (v3 + (1 : Int32)) _ _ _ hq hH (lv_sub hl [1, 2, 3, 0] rfl)
set_option maxRecDepth 100000 in
set_option maxHeartbeats 4000000 in
theorem s_X0_agreeing_4 {k : Nat} {k1 : Nat} {I : wI} {Q : Int32 → Prop} (hs : wSh k = (0, 0)) (hs1 : wSh k1 = (0, 0)) (C0 : wCx p m c s args meth cX0_agreeing 4 RX0 (some .int) D cs ad b) : ∀ (f : Nat) (v2 : Int32) (v3 : Int32) (H : Heap) (locs : List Loc) (ls : Array Slot), v_X0_agreeing_4 k k1 I Q f v2 v3 → wH D cs b G I s H locs → lv_has ls 4 [(0, .ref (b + k)), (1, .ref (b + k1)), (2, .int v2), (3, .int v3)] → W p l e rm_X0_agreeing s m args below meth c H locs 0 0 (MQ below (va_Qi (fun r I' => I' = I ∧ Q r) (wPo D cs b G) (fun q => b ≤ q)) args s 0 0 (fun q => b ≤ q)) (F0 m 4 ls []) := by
  obtain ⟨hX, hr, hlk, hK, hE⟩ := id C0
  have hx := hX.1
  have hb := hX.2.1
  have hown := hX.2.2.2.1
  have hts := hX.2.2.2.2
  intro f
  induction f with
  | zero =>
    intro v2 v3 H locs ls hq
    exact hq.elim
  | succ f hK4 =>
    intro v2 v3 H locs ls hq hH hl
    have hq : g_X0_agreeing_4 k k1 I Q (v_X0_agreeing_4 k k1 I Q f) v2 v3 := hq
    unfold g_X0_agreeing_4 at hq
    refine lv_iload_n hx hb dX0_agreeing_4 rfl (lv_at hl 3 rfl) ?_
    refine lv_bipush (v := 6) hx hb dX0_agreeing_5 (by decide) ?_
    refine lv_icmp_ge (tgt := 49) hx hb dX0_agreeing_7 (by decide) (fun hc => ?_) (fun hc => ?_)
    · have hq := hq.1 hc
      refine lv_iload_n hx hb dX0_agreeing_49 rfl (lv_at hl 2 rfl) ?_
      exact w_eI hX hr hlk hH ⟨rfl, hq⟩ dX0_agreeing_50
    · have hq := hq.2 hc
      refine lv_aload_n hx hb dX0_agreeing_10 rfl (lv_at hl 0 rfl) ?_
      refine w_getr hX hK hH ck0 hs 0 1 (k + 1) fr0_0 rfl q1_38 dX0_agreeing_11 ?_
      refine lv_iload_n hx hb dX0_agreeing_14 rfl (lv_at hl 3 rfl) ?_
      obtain ⟨hc, hq⟩ := hq
      refine w_iald hX hK hH (sf0_0 hs) hc dX0_agreeing_15 ?_
      refine lv_aload_n hx hb dX0_agreeing_16 rfl (lv_at hl 1 rfl) ?_
      refine w_getr hX hK hH ck0 hs1 0 1 (k1 + 1) fr0_0 rfl q1_38 dX0_agreeing_17 ?_
      refine lv_iload_n hx hb dX0_agreeing_20 rfl (lv_at hl 3 rfl) ?_
      obtain ⟨hc, hq⟩ := hq
      refine w_iald hX hK hH (sf0_0 hs1) hc dX0_agreeing_21 ?_
      refine lv_icmp_ne (tgt := 43) hx hb dX0_agreeing_22 (by decide) (fun hc => ?_) (fun hc => ?_)
      · have hq := hq.1 hc
        exact s_X0_agreeing_43 hs hs1 C0 hK4 v2 v3 _ _ _ hq hH (lv_sub hl [0, 1, 2, 3] rfl)
      · have hq := hq.2 hc
        refine lv_aload_n hx hb dX0_agreeing_25 rfl (lv_at hl 0 rfl) ?_
        refine w_getr hX hK hH ck0 hs 1 2 (k + 2) fr0_1 rfl q1_39 dX0_agreeing_26 ?_
        refine lv_iload_n hx hb dX0_agreeing_29 rfl (lv_at hl 3 rfl) ?_
        obtain ⟨hc, hq⟩ := hq
        refine w_iald hX hK hH (sf0_1 hs) hc dX0_agreeing_30 ?_
        refine lv_aload_n hx hb dX0_agreeing_31 rfl (lv_at hl 1 rfl) ?_
        refine w_getr hX hK hH ck0 hs1 1 2 (k1 + 2) fr0_1 rfl q1_39 dX0_agreeing_32 ?_
        refine lv_iload_n hx hb dX0_agreeing_35 rfl (lv_at hl 3 rfl) ?_
        obtain ⟨hc, hq⟩ := hq
        refine w_iald hX hK hH (sf0_1 hs1) hc dX0_agreeing_36 ?_
        refine lv_icmp_ne (tgt := 43) hx hb dX0_agreeing_37 (by decide) (fun hc => ?_) (fun hc => ?_)
        · have hq := hq.1 hc
          exact s_X0_agreeing_43 hs hs1 C0 hK4 v2 v3 _ _ _ hq hH (lv_sub hl [0, 1, 2, 3] rfl)
        · have hq := hq.2 hc
          refine lv_iinc (v := (v2 + (1 : Int32))) (lv' := [(2, .int (v2 + (1 : Int32))), (0, .ref (b + k)), (1, .ref (b + k1)), (3, .int v3)]) hx hb dX0_agreeing_40 hl (k := 2) rfl rfl (by decide) rfl (fun ls hl => ?_)
          exact s_X0_agreeing_43 hs hs1 C0 hK4 (v2 + (1 : Int32)) v3 _ _ _ hq hH (lv_sub hl [1, 2, 0, 3] rfl)
set_option maxRecDepth 100000 in
set_option maxHeartbeats 4000000 in
theorem c_X0_agreeing {l : Launch} {D : va_G} {cs : wC4} {ad : Nat → Nat} {b : Nat} {G : wG} {k : Nat} {k1 : Nat} (hs : wSh k = (0, 0)) (hs1 : wSh k1 = (0, 0))  (I : wI) (hp : pre_X0_agreeing k k1 I) : Met l yX0_agreeing (ws_ yX0_agreeing cX0_agreeing 4 (some .int)) rm_X0_agreeing (va_Pc [.ref (b + k), .ref (b + k1)] (wPr D cs ad b G I)) (va_Qi (fun r I' => I' = I ∧ post_X0_agreeing k k1 I r) (wPo D cs b G) (fun q => b ≤ q)) 0 0 (fun q => b ≤ q) := by
  have hq := vc_X0_agreeing k k1 hs hs1 I hp
  refine w_met (by decide) (Nat.le_of_ble_eq_true rfl) ?_
  intro p e s m below meth c hX hr hlk hK hE hH ls hl
  have C0 : wCx p m c s _ meth cX0_agreeing 4 RX0 (some .int) D cs ad b := ⟨hX, hr, hlk, hK, hE⟩
  have hX : CallFix p m c cX0_agreeing 4 s _ lw_all RX0 := hX
  have hx := hX.1
  have hb := hX.2.1
  have hown := hX.2.2.2.1
  have hts := hX.2.2.2.2
  have hl : lv_has ls 4 [(0, .ref (b + k)), (1, .ref (b + k1))] := hl
  unfold v_X0_agreeing at hq
  refine lv_iconst (v := 0) hx hb dX0_agreeing_0 (by decide) ?_
  refine lv_istore_n (lv' := [(2, .int (0 : Int32)), (0, .ref (b + k)), (1, .ref (b + k1))]) hx hb dX0_agreeing_1 rfl hl (by decide) rfl (fun ls hl => ?_)
  refine lv_iconst (v := 0) hx hb dX0_agreeing_2 (by decide) ?_
  refine lv_istore_n (lv' := [(3, .int (0 : Int32)), (2, .int (0 : Int32)), (0, .ref (b + k)), (1, .ref (b + k1))]) hx hb dX0_agreeing_3 rfl hl (by decide) rfl (fun ls hl => ?_)
  obtain ⟨f, hq⟩ := hq
  exact s_X0_agreeing_4 hs hs1 C0  f (0 : Int32) (0 : Int32) _ _ _ hq hH (lv_sub hl [2, 3, 1, 0] rfl)
abbrev rm_X3_asInSecret : Room := { frames := 1, cells := 0, slots := 0, locals := 23 }
theorem hd_X3_asInSecret : yX3_asInSecret.cls = RX3 ∧ yX3_asInSecret.cls ≠ "java/lang/invoke/MethodHandle" ∧ yX3_asInSecret.cls ≠ "java/lang/invoke/VarHandle" ∧ (parseMethodDescriptor yX3_asInSecret.desc).map (fun d => d.parameters.length) = some 1 := by decide +kernel
set_option maxRecDepth 100000 in
set_option maxHeartbeats 4000000 in
theorem s_X3_asInSecret_19 {k : Nat} {k1 : Nat} {I : wI} {Q : Int32 → Prop} (hs : wSh k = (0, 3)) (hs1 : wSh k1 = (0, 0)) (C0 : wCx p m c s args meth cX3_asInSecret 2 RX3 (some .int) D cs ad b) : ∀ (t0 : Int32) (H : Heap) (locs : List Loc) (ls : Array Slot), v_X3_asInSecret_19 k k1 I Q t0 → wH D cs b G I s H locs → lv_has ls 2 [] → W p l e rm_X3_asInSecret s m args below meth c H locs 0 0 (MQ below (va_Qi (fun r I' => I' = I ∧ Q r) (wPo D cs b G) (fun q => b ≤ q)) args s 0 0 (fun q => b ≤ q)) (F0 m 19 ls [.int t0]) := by
  obtain ⟨hX, hr, hlk, hK, hE⟩ := id C0
  have hx := hX.1
  have hb := hX.2.1
  have hown := hX.2.2.2.1
  have hts := hX.2.2.2.2
  intro t0 H locs ls hq hH hl
  unfold v_X3_asInSecret_19 at hq
  exact w_eI hX hr hlk hH ⟨rfl, hq⟩ dX3_asInSecret_19
set_option maxRecDepth 100000 in
set_option maxHeartbeats 4000000 in
theorem c_X3_asInSecret {l : Launch} {D : va_G} {cs : wC4} {ad : Nat → Nat} {b : Nat} {G : wG} {k : Nat} {k1 : Nat} (hs : wSh k = (0, 3)) (hs1 : wSh k1 = (0, 0))  (I : wI) (hp : pre_X3_asInSecret k k1 I) : Met l yX3_asInSecret (ws_ yX3_asInSecret cX3_asInSecret 2 (some .int)) rm_X3_asInSecret (va_Pc [.ref (b + k), .ref (b + k1)] (wPr D cs ad b G I)) (va_Qi (fun r I' => I' = I ∧ post_X3_asInSecret k k1 I r) (wPo D cs b G) (fun q => b ≤ q)) 0 0 (fun q => b ≤ q) := by
  have hq := vc_X3_asInSecret k k1 hs hs1 I hp
  refine w_met (by decide) (Nat.le_of_ble_eq_true rfl) ?_
  intro p e s m below meth c hX hr hlk hK hE hH ls hl
  have C0 : wCx p m c s _ meth cX3_asInSecret 2 RX3 (some .int) D cs ad b := ⟨hX, hr, hlk, hK, hE⟩
  have hX : CallFix p m c cX3_asInSecret 2 s _ lw_all RX3 := hX
  have hx := hX.1
  have hb := hX.2.1
  have hown := hX.2.2.2.1
  have hts := hX.2.2.2.2
  have hl : lv_has ls 2 [(0, .ref (b + k)), (1, .ref (b + k1))] := hl
  unfold v_X3_asInSecret at hq
  refine lv_aload_n hx hb dX3_asInSecret_0 rfl (lv_at hl 0 rfl) ?_
  refine w_geti hX hK hH ck3 hs 3 fi3_3 q1_68 dX3_asInSecret_1 ?_
  refine lv_if_eq (tgt := 18) hx hb dX3_asInSecret_4 (by decide) (fun hc => ?_) (fun hc => ?_)
  · have hq := hq.1 hc
    refine lv_iconst (v := 0) hx hb dX3_asInSecret_18 (by decide) ?_
    exact s_X3_asInSecret_19 hs hs1 C0  (0 : Int32) _ _ _ hq hH (lv_sub hl [] rfl)
  · have hq := hq.2 hc
    refine lv_aload_n hx hb dX3_asInSecret_7 rfl (lv_at hl 1 rfl) ?_
    refine lv_aload_n hx hb dX3_asInSecret_8 rfl (lv_at hl 0 rfl) ?_
    refine w_getr hX hK hH ck3 hs 2 7 (k + 7) fr3_2 rfl q1_65 dX3_asInSecret_9 ?_
    obtain ⟨hp, hq⟩ := hq
    refine w_cIp hH (w_rV (As := [.ref (b + (k + 7))]) (rest := []) hX hK hE hH (c_X0_agreeing hs1 (sf3_2 hs)  _ hp) ck0 hs1 q2_120 q2_121 q2_122 q1_3 q2_123 hd_X0_agreeing ⟨Nat.le_of_ble_eq_true rfl, Nat.le_of_ble_eq_true rfl⟩ ⟨rfl, rfl⟩ rfl hl.1 rfl (Nat.le_of_ble_eq_true rfl) dX3_asInSecret_12 ⟨Nat.zero_le _, Nat.zero_le _⟩) (fun r1  H locs hpo hH => ?_)
    have hq := hq r1  hpo
    refine lv_goto (tgt := 19) hx hb dX3_asInSecret_15 (by decide) ?_
    exact s_X3_asInSecret_19 hs hs1 C0  r1 _ _ _ hq hH (lv_sub hl [] rfl)
abbrev rm_X3_opens : Room := { frames := 2, cells := 0, slots := 0, locals := 44 }
theorem hd_X3_opens : yX3_opens.cls = RX3 ∧ yX3_opens.cls ≠ "java/lang/invoke/MethodHandle" ∧ yX3_opens.cls ≠ "java/lang/invoke/VarHandle" ∧ (parseMethodDescriptor yX3_opens.desc).map (fun d => d.parameters.length) = some 0 := by decide +kernel
set_option maxRecDepth 100000 in
set_option maxHeartbeats 4000000 in
theorem s_X3_opens_18 {k : Nat} {I : wI} {Q : Int32 → Prop} (hs : wSh k = (0, 3)) (C0 : wCx p m c s args meth cX3_opens 1 RX3 (some .boolean) D cs ad b) : ∀ (t0 : Int32) (H : Heap) (locs : List Loc) (ls : Array Slot), v_X3_opens_18 k I Q t0 → wH D cs b G I s H locs → lv_has ls 1 [] → W p l e rm_X3_opens s m args below meth c H locs 0 0 (MQ below (va_Qi (fun r I' => I' = I ∧ Q r) (wPo D cs b G) (fun q => b ≤ q)) args s 0 0 (fun q => b ≤ q)) (F0 m 18 ls [.int t0]) := by
  obtain ⟨hX, hr, hlk, hK, hE⟩ := id C0
  have hx := hX.1
  have hb := hX.2.1
  have hown := hX.2.2.2.1
  have hts := hX.2.2.2.2
  intro t0 H locs ls hq hH hl
  unfold v_X3_opens_18 at hq
  obtain ⟨hz, hq⟩ := hq
  exact w_eZ hz hX hr hlk hH ⟨rfl, hq⟩ dX3_opens_18
set_option maxRecDepth 100000 in
set_option maxHeartbeats 4000000 in
theorem c_X3_opens {l : Launch} {D : va_G} {cs : wC4} {ad : Nat → Nat} {b : Nat} {G : wG} {k : Nat} (hs : wSh k = (0, 3))  (I : wI) (hp : pre_X3_opens k I) : Met l yX3_opens (ws_ yX3_opens cX3_opens 1 (some .boolean)) rm_X3_opens (va_Pc [.ref (b + k)] (wPr D cs ad b G I)) (va_Qi (fun r I' => I' = I ∧ post_X3_opens k I r) (wPo D cs b G) (fun q => b ≤ q)) 0 0 (fun q => b ≤ q) := by
  have hq := vc_X3_opens k hs I hp
  refine w_met (by decide) (Nat.le_of_ble_eq_true rfl) ?_
  intro p e s m below meth c hX hr hlk hK hE hH ls hl
  have C0 : wCx p m c s _ meth cX3_opens 1 RX3 (some .boolean) D cs ad b := ⟨hX, hr, hlk, hK, hE⟩
  have hX : CallFix p m c cX3_opens 1 s _ lw_all RX3 := hX
  have hx := hX.1
  have hb := hX.2.1
  have hown := hX.2.2.2.1
  have hts := hX.2.2.2.2
  have hl : lv_has ls 1 [(0, .ref (b + k))] := hl
  unfold v_X3_opens at hq
  refine lv_aload_n hx hb dX3_opens_0 rfl (lv_at hl 0 rfl) ?_
  refine lv_aload_n hx hb dX3_opens_1 rfl (lv_at hl 0 rfl) ?_
  refine w_getr hX hK hH ck3 hs 0 1 (k + 1) fr3_0 rfl q1_59 dX3_opens_2 ?_
  obtain ⟨hp, hq⟩ := hq
  refine w_cIp hH (w_rV (As := [.ref (b + (k + 1))]) (rest := []) hX hK hE hH (c_X3_asInSecret hs (sf3_0 hs)  _ hp) ck3 hs q2_143 q2_117 q2_118 q1_2 q2_119 hd_X3_asInSecret ⟨Nat.le_of_ble_eq_true rfl, Nat.le_of_ble_eq_true rfl⟩ ⟨rfl, rfl⟩ rfl hl.1 rfl (Nat.le_of_ble_eq_true rfl) dX3_opens_5 ⟨Nat.zero_le _, Nat.zero_le _⟩) (fun r1  H locs hpo hH => ?_)
  have hq := hq r1  hpo
  refine lv_bipush (v := 6) hx hb dX3_opens_8 (by decide) ?_
  refine lv_icmp_ne (tgt := 17) hx hb dX3_opens_10 (by decide) (fun hc => ?_) (fun hc => ?_)
  · have hq := hq.1 hc
    refine lv_iconst (v := 0) hx hb dX3_opens_17 (by decide) ?_
    exact s_X3_opens_18 hs C0  (0 : Int32) _ _ _ hq hH (lv_sub hl [] rfl)
  · have hq := hq.2 hc
    refine lv_iconst (v := 1) hx hb dX3_opens_13 (by decide) ?_
    refine lv_goto (tgt := 18) hx hb dX3_opens_14 (by decide) ?_
    exact s_X3_opens_18 hs C0  (1 : Int32) _ _ _ hq hH (lv_sub hl [] rfl)
abbrev rm_X1_strengthOf : Room := { frames := 0, cells := 0, slots := 0, locals := 0 }
theorem hd_X1_strengthOf : yX1_strengthOf.cls = RX1 ∧ yX1_strengthOf.cls ≠ "java/lang/invoke/MethodHandle" ∧ yX1_strengthOf.cls ≠ "java/lang/invoke/VarHandle" ∧ (parseMethodDescriptor yX1_strengthOf.desc).map (fun d => d.parameters.length) = some 1 := by decide +kernel
set_option maxRecDepth 100000 in
set_option maxHeartbeats 4000000 in
theorem s_X1_strengthOf_19 {k : Nat} {x1 : Int32} {I : wI} {Q : Int32 → Prop} (hs : wSh k = (0, 1)) (C0 : wCx p m c s args meth cX1_strengthOf 2 RX1 (some .int) D cs ad b) : ∀ (t0 : Int32) (H : Heap) (locs : List Loc) (ls : Array Slot), v_X1_strengthOf_19 k x1 I Q t0 → wH D cs b G I s H locs → lv_has ls 2 [] → W p l e rm_X1_strengthOf s m args below meth c H locs 0 0 (MQ below (va_Qi (fun r I' => I' = I ∧ Q r) (wPo D cs b G) (fun q => b ≤ q)) args s 0 0 (fun q => b ≤ q)) (F0 m 19 ls [.int t0]) := by
  obtain ⟨hX, hr, hlk, hK, hE⟩ := id C0
  have hx := hX.1
  have hb := hX.2.1
  have hown := hX.2.2.2.1
  have hts := hX.2.2.2.2
  intro t0 H locs ls hq hH hl
  unfold v_X1_strengthOf_19 at hq
  exact w_eI hX hr hlk hH ⟨rfl, hq⟩ dX1_strengthOf_19
set_option maxRecDepth 100000 in
set_option maxHeartbeats 4000000 in
theorem s_X1_strengthOf_18 {k : Nat} {x1 : Int32} {I : wI} {Q : Int32 → Prop} (hs : wSh k = (0, 1)) (C0 : wCx p m c s args meth cX1_strengthOf 2 RX1 (some .int) D cs ad b) : ∀  (H : Heap) (locs : List Loc) (ls : Array Slot), v_X1_strengthOf_18 k x1 I Q  → wH D cs b G I s H locs → lv_has ls 2 [] → W p l e rm_X1_strengthOf s m args below meth c H locs 0 0 (MQ below (va_Qi (fun r I' => I' = I ∧ Q r) (wPo D cs b G) (fun q => b ≤ q)) args s 0 0 (fun q => b ≤ q)) (F0 m 18 ls []) := by
  obtain ⟨hX, hr, hlk, hK, hE⟩ := id C0
  have hx := hX.1
  have hb := hX.2.1
  have hown := hX.2.2.2.1
  have hts := hX.2.2.2.2
  intro  H locs ls hq hH hl
  unfold v_X1_strengthOf_18 at hq
  refine lv_iconst (v := 0) hx hb dX1_strengthOf_18 (by decide) ?_
  exact s_X1_strengthOf_19 hs C0  (0 : Int32) _ _ _ hq hH (lv_sub hl [] rfl)
set_option maxRecDepth 100000 in
set_option maxHeartbeats 4000000 in
theorem c_X1_strengthOf {l : Launch} {D : va_G} {cs : wC4} {ad : Nat → Nat} {b : Nat} {G : wG} {k : Nat} (hs : wSh k = (0, 1)) (x1 : Int32) (I : wI) (hp : pre_X1_strengthOf k x1 I) : Met l yX1_strengthOf (ws_ yX1_strengthOf cX1_strengthOf 2 (some .int)) rm_X1_strengthOf (va_Pc [.ref (b + k), .int x1] (wPr D cs ad b G I)) (va_Qi (fun r I' => I' = I ∧ post_X1_strengthOf k x1 I r) (wPo D cs b G) (fun q => b ≤ q)) 0 0 (fun q => b ≤ q) := by
  have hq := vc_X1_strengthOf k x1 hs I hp
  refine w_met (by decide) (Nat.le_of_ble_eq_true rfl) ?_
  intro p e s m below meth c hX hr hlk hK hE hH ls hl
  have C0 : wCx p m c s _ meth cX1_strengthOf 2 RX1 (some .int) D cs ad b := ⟨hX, hr, hlk, hK, hE⟩
  have hX : CallFix p m c cX1_strengthOf 2 s _ lw_all RX1 := hX
  have hx := hX.1
  have hb := hX.2.1
  have hown := hX.2.2.2.1
  have hts := hX.2.2.2.2
  have hl : lv_has ls 2 [(0, .ref (b + k)), (1, .int x1)] := hl
  unfold v_X1_strengthOf at hq
  refine lv_iload_n hx hb dX1_strengthOf_0 rfl (lv_at hl 1 rfl) ?_
  refine lv_if_lt (tgt := 18) hx hb dX1_strengthOf_1 (by decide) (fun hc => ?_) (fun hc => ?_)
  · have hq := hq.1 hc
    exact s_X1_strengthOf_18 hs C0   _ _ _ hq hH (lv_sub hl [] rfl)
  · have hq := hq.2 hc
    refine lv_iload_n hx hb dX1_strengthOf_4 rfl (lv_at hl 1 rfl) ?_
    refine lv_iconst (v := 5) hx hb dX1_strengthOf_5 (by decide) ?_
    refine lv_icmp_ge (tgt := 18) hx hb dX1_strengthOf_6 (by decide) (fun hc => ?_) (fun hc => ?_)
    · have hq := hq.1 hc
      exact s_X1_strengthOf_18 hs C0   _ _ _ hq hH (lv_sub hl [] rfl)
    · have hq := hq.2 hc
      refine lv_aload_n hx hb dX1_strengthOf_9 rfl (lv_at hl 0 rfl) ?_
      refine w_getr hX hK hH ck1 hs 1 2 (k + 2) fr1_1 rfl q1_53 dX1_strengthOf_10 ?_
      refine lv_iload_n hx hb dX1_strengthOf_13 rfl (lv_at hl 1 rfl) ?_
      obtain ⟨hc, hq⟩ := hq
      refine w_iald hX hK hH (sf1_1 hs) hc dX1_strengthOf_14 ?_
      refine lv_goto (tgt := 19) hx hb dX1_strengthOf_15 (by decide) ?_
      exact s_X1_strengthOf_19 hs C0  (I (k + 2) (x1).toNatClampNeg) _ _ _ hq hH (lv_sub hl [] rfl)
abbrev rm_X5_isBack : Room := { frames := 0, cells := 0, slots := 0, locals := 0 }
theorem hd_X5_isBack : yX5_isBack.cls = RX5 ∧ yX5_isBack.cls ≠ "java/lang/invoke/MethodHandle" ∧ yX5_isBack.cls ≠ "java/lang/invoke/VarHandle" ∧ (parseMethodDescriptor yX5_isBack.desc).map (fun d => d.parameters.length) = some 1 := by decide +kernel
set_option maxRecDepth 100000 in
set_option maxHeartbeats 4000000 in
theorem s_X5_isBack_10 {x0 : Int32} {I : wI} {Q : Int32 → Prop} (C0 : wCx p m c s args meth cX5_isBack 1 RX5 (some .boolean) D cs ad b) : ∀ (t0 : Int32) (H : Heap) (locs : List Loc) (ls : Array Slot), v_X5_isBack_10 x0 I Q t0 → wH D cs b G I s H locs → lv_has ls 1 [] → W p l e rm_X5_isBack s m args below meth c H locs 0 0 (MQ below (va_Qi (fun r I' => I' = I ∧ Q r) (wPo D cs b G) (fun q => b ≤ q)) args s 0 0 (fun q => b ≤ q)) (F0 m 10 ls [.int t0]) := by
  obtain ⟨hX, hr, hlk, hK, hE⟩ := id C0
  have hx := hX.1
  have hb := hX.2.1
  have hown := hX.2.2.2.1
  have hts := hX.2.2.2.2
  intro t0 H locs ls hq hH hl
  unfold v_X5_isBack_10 at hq
  obtain ⟨hz, hq⟩ := hq
  exact w_eZ hz hX hr hlk hH ⟨rfl, hq⟩ dX5_isBack_10
set_option maxRecDepth 100000 in
set_option maxHeartbeats 4000000 in
theorem c_X5_isBack {l : Launch} {D : va_G} {cs : wC4} {ad : Nat → Nat} {b : Nat} {G : wG} (x0 : Int32) (I : wI) (hp : pre_X5_isBack x0 I) : Met l yX5_isBack (ws_ yX5_isBack cX5_isBack 1 (some .boolean)) rm_X5_isBack (va_Pc [.int x0] (wPr D cs ad b G I)) (va_Qi (fun r I' => I' = I ∧ post_X5_isBack x0 I r) (wPo D cs b G) (fun q => b ≤ q)) 0 0 (fun q => b ≤ q) := by
  have hq := vc_X5_isBack x0 I hp
  refine w_met (by decide) (Nat.le_of_ble_eq_true rfl) ?_
  intro p e s m below meth c hX hr hlk hK hE hH ls hl
  have C0 : wCx p m c s _ meth cX5_isBack 1 RX5 (some .boolean) D cs ad b := ⟨hX, hr, hlk, hK, hE⟩
  have hX : CallFix p m c cX5_isBack 1 s _ lw_all RX5 := hX
  have hx := hX.1
  have hb := hX.2.1
  have hown := hX.2.2.2.1
  have hts := hX.2.2.2.2
  have hl : lv_has ls 1 [(0, .int x0)] := hl
  unfold v_X5_isBack at hq
  refine lv_iload_n hx hb dX5_isBack_0 rfl (lv_at hl 0 rfl) ?_
  refine lv_iconst (v := 5) hx hb dX5_isBack_1 (by decide) ?_
  refine lv_icmp_lt (tgt := 9) hx hb dX5_isBack_2 (by decide) (fun hc => ?_) (fun hc => ?_)
  · have hq := hq.1 hc
    refine lv_iconst (v := 0) hx hb dX5_isBack_9 (by decide) ?_
    exact s_X5_isBack_10  C0  (0 : Int32) _ _ _ hq hH (lv_sub hl [] rfl)
  · have hq := hq.2 hc
    refine lv_iconst (v := 1) hx hb dX5_isBack_5 (by decide) ?_
    refine lv_goto (tgt := 10) hx hb dX5_isBack_6 (by decide) ?_
    exact s_X5_isBack_10  C0  (1 : Int32) _ _ _ hq hH (lv_sub hl [] rfl)
abbrev rm_X0_rotate : Room := { frames := 0, cells := 0, slots := 0, locals := 0 }
theorem hd_X0_rotate : yX0_rotate.cls = RX0 ∧ yX0_rotate.cls ≠ "java/lang/invoke/MethodHandle" ∧ yX0_rotate.cls ≠ "java/lang/invoke/VarHandle" ∧ (parseMethodDescriptor yX0_rotate.desc).map (fun d => d.parameters.length) = some 3 := by decide +kernel
set_option maxRecDepth 100000 in
set_option maxHeartbeats 4000000 in
theorem s_X0_rotate_155 {k : Nat} {x1 : Int32} {x2 : Int32} {x3 : Int32} {Q : wI → Prop} (hs : wSh k = (0, 0)) (C0 : wCx p m c s args meth cX0_rotate 12 RX0 none D cs ad b) : ∀  (I : wI) (H : Heap) (locs : List Loc) (ls : Array Slot), v_X0_rotate_155 k x1 x2 x3 Q  I → wH D cs b G I s H locs → lv_has ls 12 [] → W p l e rm_X0_rotate s m args below meth c H locs 0 0 (MQ below (va_Qv (Q) (wPo D cs b G) (fun q => b ≤ q)) args s 0 0 (fun q => b ≤ q)) (F0 m 155 ls []) := by
  obtain ⟨hX, hr, hlk, hK, hE⟩ := id C0
  have hx := hX.1
  have hb := hX.2.1
  have hown := hX.2.2.2.1
  have hts := hX.2.2.2.2
  intro  I H locs ls hq hH hl
  unfold v_X0_rotate_155 at hq
  exact w_eV hX hr hlk hH hq dX0_rotate_155
set_option maxRecDepth 100000 in
set_option maxHeartbeats 4000000 in
theorem s_X0_rotate_119 {k : Nat} {x1 : Int32} {x2 : Int32} {x3 : Int32} {Q : wI → Prop} {K25 : Int32 → Int32 → Int32 → Int32 → Int32 → wI → Prop} (hs : wSh k = (0, 0)) (C0 : wCx p m c s args meth cX0_rotate 12 RX0 none D cs ad b) (hK25 : ∀ (v4 : Int32) (v5 : Int32) (v6 : Int32) (v7 : Int32) (v8 : Int32) (I : wI) (H : Heap) (locs : List Loc) (ls : Array Slot), K25 v4 v5 v6 v7 v8 I → wH D cs b G I s H locs → lv_has ls 12 [(0, .ref (b + k)), (1, .int x1), (3, .int x3), (4, .int v4), (5, .int v5), (6, .int v6), (7, .int v7), (8, .int v8)] → W p l e rm_X0_rotate s m args below meth c H locs 0 0 (MQ below (va_Qv (Q) (wPo D cs b G) (fun q => b ≤ q)) args s 0 0 (fun q => b ≤ q)) (F0 m 25 ls [])) : ∀ (v4 : Int32) (v5 : Int32) (v6 : Int32) (v7 : Int32) (v8 : Int32) (I : wI) (H : Heap) (locs : List Loc) (ls : Array Slot), v_X0_rotate_119 k x1 x2 x3 Q K25 v4 v5 v6 v7 v8 I → wH D cs b G I s H locs → lv_has ls 12 [(0, .ref (b + k)), (1, .int x1), (3, .int x3), (4, .int v4), (5, .int v5), (6, .int v6), (7, .int v7), (8, .int v8)] → W p l e rm_X0_rotate s m args below meth c H locs 0 0 (MQ below (va_Qv (Q) (wPo D cs b G) (fun q => b ≤ q)) args s 0 0 (fun q => b ≤ q)) (F0 m 119 ls []) := by
  obtain ⟨hX, hr, hlk, hK, hE⟩ := id C0
  have hx := hX.1
  have hb := hX.2.1
  have hown := hX.2.2.2.1
  have hts := hX.2.2.2.2
  intro v4 v5 v6 v7 v8 I H locs ls hq hH hl
  unfold v_X0_rotate_119 at hq
  refine lv_iinc (v := (v8 + (1 : Int32))) (lv' := [(8, .int (v8 + (1 : Int32))), (0, .ref (b + k)), (1, .int x1), (3, .int x3), (4, .int v4), (5, .int v5), (6, .int v6), (7, .int v7)]) hx hb dX0_rotate_119 hl (k := 7) rfl rfl (by decide) rfl (fun ls hl => ?_)
  refine lv_goto (tgt := 25) hx hb dX0_rotate_122 (by decide) ?_
  exact hK25 v4 v5 v6 v7 (v8 + (1 : Int32)) _ _ _ _ hq hH (lv_sub hl [1, 2, 3, 4, 5, 6, 7, 0] rfl)
set_option maxRecDepth 100000 in
set_option maxHeartbeats 4000000 in
theorem s_X0_rotate_111 {k : Nat} {x1 : Int32} {x2 : Int32} {x3 : Int32} {Q : wI → Prop} {K25 : Int32 → Int32 → Int32 → Int32 → Int32 → wI → Prop} (hs : wSh k = (0, 0)) (C0 : wCx p m c s args meth cX0_rotate 12 RX0 none D cs ad b) (hK25 : ∀ (v4 : Int32) (v5 : Int32) (v6 : Int32) (v7 : Int32) (v8 : Int32) (I : wI) (H : Heap) (locs : List Loc) (ls : Array Slot), K25 v4 v5 v6 v7 v8 I → wH D cs b G I s H locs → lv_has ls 12 [(0, .ref (b + k)), (1, .int x1), (3, .int x3), (4, .int v4), (5, .int v5), (6, .int v6), (7, .int v7), (8, .int v8)] → W p l e rm_X0_rotate s m args below meth c H locs 0 0 (MQ below (va_Qv (Q) (wPo D cs b G) (fun q => b ≤ q)) args s 0 0 (fun q => b ≤ q)) (F0 m 25 ls [])) : ∀ (v4 : Int32) (v5 : Int32) (v8 : Int32) (v10 : Int32) (v11 : Int32) (I : wI) (H : Heap) (locs : List Loc) (ls : Array Slot), v_X0_rotate_111 k x1 x2 x3 Q K25 v4 v5 v8 v10 v11 I → wH D cs b G I s H locs → lv_has ls 12 [(0, .ref (b + k)), (1, .int x1), (3, .int x3), (4, .int v4), (5, .int v5), (8, .int v8), (10, .int v10), (11, .int v11)] → W p l e rm_X0_rotate s m args below meth c H locs 0 0 (MQ below (va_Qv (Q) (wPo D cs b G) (fun q => b ≤ q)) args s 0 0 (fun q => b ≤ q)) (F0 m 111 ls []) := by
  obtain ⟨hX, hr, hlk, hK, hE⟩ := id C0
  have hx := hX.1
  have hb := hX.2.1
  have hown := hX.2.2.2.1
  have hts := hX.2.2.2.2
  intro v4 v5 v8 v10 v11 I H locs ls hq hH hl
  unfold v_X0_rotate_111 at hq
  refine lv_iload hx hb dX0_rotate_111 (lv_at hl 6 rfl) ?_
  refine lv_istore (lv' := [(6, .int v10), (0, .ref (b + k)), (1, .int x1), (3, .int x3), (4, .int v4), (5, .int v5), (8, .int v8), (10, .int v10), (11, .int v11)]) hx hb dX0_rotate_113 hl (by decide) rfl (fun ls hl => ?_)
  refine lv_iload hx hb dX0_rotate_115 (lv_at hl 8 rfl) ?_
  refine lv_istore (lv' := [(7, .int v11), (6, .int v10), (0, .ref (b + k)), (1, .int x1), (3, .int x3), (4, .int v4), (5, .int v5), (8, .int v8), (10, .int v10), (11, .int v11)]) hx hb dX0_rotate_117 hl (by decide) rfl (fun ls hl => ?_)
  exact s_X0_rotate_119 hs C0 hK25 v4 v5 v10 v11 v8 _ _ _ _ hq hH (lv_sub hl [2, 3, 4, 5, 6, 1, 0, 7] rfl)
set_option maxRecDepth 100000 in
set_option maxHeartbeats 4000000 in
theorem s_X0_rotate_45 {k : Nat} {x1 : Int32} {x2 : Int32} {x3 : Int32} {Q : wI → Prop} {K25 : Int32 → Int32 → Int32 → Int32 → Int32 → wI → Prop} (hs : wSh k = (0, 0)) (C0 : wCx p m c s args meth cX0_rotate 12 RX0 none D cs ad b) (hK25 : ∀ (v4 : Int32) (v5 : Int32) (v6 : Int32) (v7 : Int32) (v8 : Int32) (I : wI) (H : Heap) (locs : List Loc) (ls : Array Slot), K25 v4 v5 v6 v7 v8 I → wH D cs b G I s H locs → lv_has ls 12 [(0, .ref (b + k)), (1, .int x1), (3, .int x3), (4, .int v4), (5, .int v5), (6, .int v6), (7, .int v7), (8, .int v8)] → W p l e rm_X0_rotate s m args below meth c H locs 0 0 (MQ below (va_Qv (Q) (wPo D cs b G) (fun q => b ≤ q)) args s 0 0 (fun q => b ≤ q)) (F0 m 25 ls [])) : ∀ (v4 : Int32) (v5 : Int32) (v6 : Int32) (v7 : Int32) (v8 : Int32) (t0 : Int32) (I : wI) (H : Heap) (locs : List Loc) (ls : Array Slot), v_X0_rotate_45 k x1 x2 x3 Q K25 v4 v5 v6 v7 v8 t0 I → wH D cs b G I s H locs → lv_has ls 12 [(0, .ref (b + k)), (1, .int x1), (3, .int x3), (4, .int v4), (5, .int v5), (6, .int v6), (7, .int v7), (8, .int v8)] → W p l e rm_X0_rotate s m args below meth c H locs 0 0 (MQ below (va_Qv (Q) (wPo D cs b G) (fun q => b ≤ q)) args s 0 0 (fun q => b ≤ q)) (F0 m 45 ls [.int t0]) := by
  obtain ⟨hX, hr, hlk, hK, hE⟩ := id C0
  have hx := hX.1
  have hb := hX.2.1
  have hown := hX.2.2.2.1
  have hts := hX.2.2.2.2
  intro v4 v5 v6 v7 v8 t0 I H locs ls hq hH hl
  unfold v_X0_rotate_45 at hq
  refine lv_istore (lv' := [(9, .int t0), (0, .ref (b + k)), (1, .int x1), (3, .int x3), (4, .int v4), (5, .int v5), (6, .int v6), (7, .int v7), (8, .int v8)]) hx hb dX0_rotate_45 hl (by decide) rfl (fun ls hl => ?_)
  refine lv_iload_n hx hb dX0_rotate_47 rfl (lv_at hl 2 rfl) ?_
  refine lv_iload hx hb dX0_rotate_48 (lv_at hl 0 rfl) ?_
  refine lv_ishr hx hb dX0_rotate_50 ?_
  refine lv_iconst (v := 1) hx hb dX0_rotate_51 (by decide) ?_
  refine lv_iand hx hb dX0_rotate_52 ?_
  refine lv_iconst (v := 1) hx hb dX0_rotate_53 (by decide) ?_
  refine lv_icmp_ne (tgt := 119) hx hb dX0_rotate_54 (by decide) (fun hc => ?_) (fun hc => ?_)
  · have hq := hq.1 hc
    exact s_X0_rotate_119 hs C0 hK25 v4 v5 v6 v7 v8 _ _ _ _ hq hH (lv_sub hl [1, 2, 3, 4, 5, 6, 7, 8] rfl)
  · have hq := hq.2 hc
    refine lv_aload_n hx hb dX0_rotate_57 rfl (lv_at hl 1 rfl) ?_
    refine w_getr hX hK hH ck0 hs 0 1 (k + 1) fr0_0 rfl q1_38 dX0_rotate_58 ?_
    refine lv_iload hx hb dX0_rotate_61 (lv_at hl 0 rfl) ?_
    obtain ⟨hc, hq⟩ := hq
    refine w_iald hX hK hH (sf0_0 hs) hc dX0_rotate_63 ?_
    refine lv_istore (lv' := [(10, .int (I (k + 1) (t0).toNatClampNeg)), (9, .int t0), (0, .ref (b + k)), (1, .int x1), (3, .int x3), (4, .int v4), (5, .int v5), (6, .int v6), (7, .int v7), (8, .int v8)]) hx hb dX0_rotate_64 hl (by decide) rfl (fun ls hl => ?_)
    refine lv_aload_n hx hb dX0_rotate_66 rfl (lv_at hl 2 rfl) ?_
    refine w_getr hX hK hH ck0 hs 1 2 (k + 2) fr0_1 rfl q1_39 dX0_rotate_67 ?_
    refine lv_iload hx hb dX0_rotate_70 (lv_at hl 1 rfl) ?_
    obtain ⟨hc, hq⟩ := hq
    refine w_iald hX hK hH (sf0_1 hs) hc dX0_rotate_72 ?_
    refine lv_iload hx hb dX0_rotate_73 (lv_at hl 5 rfl) ?_
    refine lv_iadd hx hb dX0_rotate_75 ?_
    refine lv_iconst (v := 5) hx hb dX0_rotate_76 (by decide) ?_
    refine lv_irem hx hb dX0_rotate_77 (by decide) ?_
    refine lv_istore (lv' := [(11, .int (((I (k + 2) (t0).toNatClampNeg) + v4) - ((I (k + 2) (t0).toNatClampNeg) + v4) / (5 : Int32) * (5 : Int32))), (10, .int (I (k + 1) (t0).toNatClampNeg)), (9, .int t0), (0, .ref (b + k)), (1, .int x1), (3, .int x3), (4, .int v4), (5, .int v5), (6, .int v6), (7, .int v7), (8, .int v8)]) hx hb dX0_rotate_78 hl (by decide) rfl (fun ls hl => ?_)
    refine lv_iload hx hb dX0_rotate_80 (lv_at hl 7 rfl) ?_
    refine lv_iconst (v := -1) hx hb dX0_rotate_82 (by decide) ?_
    refine lv_icmp_ne (tgt := 93) hx hb dX0_rotate_83 (by decide) (fun hc => ?_) (fun hc => ?_)
    · have hq := hq.1 hc
      refine lv_aload_n hx hb dX0_rotate_93 rfl (lv_at hl 3 rfl) ?_
      refine w_getr hX hK hH ck0 hs 0 1 (k + 1) fr0_0 rfl q1_38 dX0_rotate_94 ?_
      refine lv_iload hx hb dX0_rotate_97 (lv_at hl 2 rfl) ?_
      refine lv_iload hx hb dX0_rotate_99 (lv_at hl 8 rfl) ?_
      obtain ⟨hc, hq⟩ := hq
      refine w_iast hX hK hH (sf0_0 hs) hc dX0_rotate_101 (fun I1 H locs hI hH => ?_)
      have hq := hq I1 hI
      refine lv_aload_n hx hb dX0_rotate_102 rfl (lv_at hl 3 rfl) ?_
      refine w_getr hX hK hH ck0 hs 1 2 (k + 2) fr0_1 rfl q1_39 dX0_rotate_103 ?_
      refine lv_iload hx hb dX0_rotate_106 (lv_at hl 2 rfl) ?_
      refine lv_iload hx hb dX0_rotate_108 (lv_at hl 9 rfl) ?_
      obtain ⟨hc, hq⟩ := hq
      refine w_iast hX hK hH (sf0_1 hs) hc dX0_rotate_110 (fun I2 H locs hI hH => ?_)
      have hq := hq I2 hI
      exact s_X0_rotate_111 hs C0 hK25 v4 v5 v8 (I (k + 1) (t0).toNatClampNeg) (((I (k + 2) (t0).toNatClampNeg) + v4) - ((I (k + 2) (t0).toNatClampNeg) + v4) / (5 : Int32) * (5 : Int32)) _ _ _ _ hq hH (lv_sub hl [3, 4, 5, 6, 7, 10, 1, 0] rfl)
    · have hq := hq.2 hc
      refine lv_iload hx hb dX0_rotate_86 (lv_at hl 2 rfl) ?_
      refine lv_istore (lv' := [(5, .int t0), (11, .int (((I (k + 2) (t0).toNatClampNeg) + v4) - ((I (k + 2) (t0).toNatClampNeg) + v4) / (5 : Int32) * (5 : Int32))), (10, .int (I (k + 1) (t0).toNatClampNeg)), (9, .int t0), (0, .ref (b + k)), (1, .int x1), (3, .int x3), (4, .int v4), (6, .int v6), (7, .int v7), (8, .int v8)]) hx hb dX0_rotate_88 hl (by decide) rfl (fun ls hl => ?_)
      refine lv_goto (tgt := 111) hx hb dX0_rotate_90 (by decide) ?_
      exact s_X0_rotate_111 hs C0 hK25 v4 t0 v8 (I (k + 1) (t0).toNatClampNeg) (((I (k + 2) (t0).toNatClampNeg) + v4) - ((I (k + 2) (t0).toNatClampNeg) + v4) / (5 : Int32) * (5 : Int32)) _ _ _ _ hq hH (lv_sub hl [4, 5, 6, 7, 0, 10, 2, 1] rfl)
set_option maxRecDepth 100000 in
set_option maxHeartbeats 4000000 in
theorem s_X0_rotate_25 {k : Nat} {x1 : Int32} {x2 : Int32} {x3 : Int32} {Q : wI → Prop} (hs : wSh k = (0, 0)) (C0 : wCx p m c s args meth cX0_rotate 12 RX0 none D cs ad b) : ∀ (f : Nat) (v4 : Int32) (v5 : Int32) (v6 : Int32) (v7 : Int32) (v8 : Int32) (I : wI) (H : Heap) (locs : List Loc) (ls : Array Slot), v_X0_rotate_25 k x1 x2 x3 Q f v4 v5 v6 v7 v8 I → wH D cs b G I s H locs → lv_has ls 12 [(0, .ref (b + k)), (1, .int x1), (3, .int x3), (4, .int v4), (5, .int v5), (6, .int v6), (7, .int v7), (8, .int v8)] → W p l e rm_X0_rotate s m args below meth c H locs 0 0 (MQ below (va_Qv (Q) (wPo D cs b G) (fun q => b ≤ q)) args s 0 0 (fun q => b ≤ q)) (F0 m 25 ls []) := by
  obtain ⟨hX, hr, hlk, hK, hE⟩ := id C0
  have hx := hX.1
  have hb := hX.2.1
  have hown := hX.2.2.2.1
  have hts := hX.2.2.2.2
  intro f
  induction f with
  | zero =>
    intro v4 v5 v6 v7 v8 I H locs ls hq
    exact hq.elim
  | succ f hK25 =>
    intro v4 v5 v6 v7 v8 I H locs ls hq hH hl
    have hq : g_X0_rotate_25 k x1 x2 x3 Q (v_X0_rotate_25 k x1 x2 x3 Q f) v4 v5 v6 v7 v8 I := hq
    unfold g_X0_rotate_25 at hq
    refine lv_iload hx hb dX0_rotate_25 (lv_at hl 7 rfl) ?_
    refine lv_bipush (v := 6) hx hb dX0_rotate_27 (by decide) ?_
    refine lv_icmp_ge (tgt := 125) hx hb dX0_rotate_29 (by decide) (fun hc => ?_) (fun hc => ?_)
    · have hq := hq.1 hc
      refine lv_iload hx hb dX0_rotate_125 (lv_at hl 4 rfl) ?_
      refine lv_if_lt (tgt := 155) hx hb dX0_rotate_127 (by decide) (fun hc => ?_) (fun hc => ?_)
      · have hq := hq.1 hc
        exact s_X0_rotate_155 hs C0   _ _ _ _ hq hH (lv_sub hl [] rfl)
      · have hq := hq.2 hc
        refine lv_iload hx hb dX0_rotate_130 (lv_at hl 4 rfl) ?_
        refine lv_bipush (v := 6) hx hb dX0_rotate_132 (by decide) ?_
        refine lv_icmp_ge (tgt := 155) hx hb dX0_rotate_134 (by decide) (fun hc => ?_) (fun hc => ?_)
        · have hq := hq.1 hc
          exact s_X0_rotate_155 hs C0   _ _ _ _ hq hH (lv_sub hl [] rfl)
        · have hq := hq.2 hc
          refine lv_aload_n hx hb dX0_rotate_137 rfl (lv_at hl 0 rfl) ?_
          refine w_getr hX hK hH ck0 hs 0 1 (k + 1) fr0_0 rfl q1_38 dX0_rotate_138 ?_
          refine lv_iload hx hb dX0_rotate_141 (lv_at hl 4 rfl) ?_
          refine lv_iload hx hb dX0_rotate_143 (lv_at hl 5 rfl) ?_
          obtain ⟨hc, hq⟩ := hq
          refine w_iast hX hK hH (sf0_0 hs) hc dX0_rotate_145 (fun I1 H locs hI hH => ?_)
          have hq := hq I1 hI
          refine lv_aload_n hx hb dX0_rotate_146 rfl (lv_at hl 0 rfl) ?_
          refine w_getr hX hK hH ck0 hs 1 2 (k + 2) fr0_1 rfl q1_39 dX0_rotate_147 ?_
          refine lv_iload hx hb dX0_rotate_150 (lv_at hl 4 rfl) ?_
          refine lv_iload hx hb dX0_rotate_152 (lv_at hl 6 rfl) ?_
          obtain ⟨hc, hq⟩ := hq
          refine w_iast hX hK hH (sf0_1 hs) hc dX0_rotate_154 (fun I2 H locs hI hH => ?_)
          have hq := hq I2 hI
          exact s_X0_rotate_155 hs C0   _ _ _ _ hq hH (lv_sub hl [] rfl)
    · have hq := hq.2 hc
      refine lv_iload_n hx hb dX0_rotate_32 rfl (lv_at hl 2 rfl) ?_
      refine lv_if_eq (tgt := 43) hx hb dX0_rotate_33 (by decide) (fun hc => ?_) (fun hc => ?_)
      · have hq := hq.1 hc
        refine lv_iload hx hb dX0_rotate_43 (lv_at hl 7 rfl) ?_
        exact s_X0_rotate_45 hs C0 hK25 v4 v5 v6 v7 v8 v8 _ _ _ _ hq hH (lv_sub hl [0, 1, 2, 3, 4, 5, 6, 7] rfl)
      · have hq := hq.2 hc
        refine lv_iconst (v := 5) hx hb dX0_rotate_36 (by decide) ?_
        refine lv_iload hx hb dX0_rotate_37 (lv_at hl 7 rfl) ?_
        refine lv_isub hx hb dX0_rotate_39 ?_
        refine lv_goto (tgt := 45) hx hb dX0_rotate_40 (by decide) ?_
        exact s_X0_rotate_45 hs C0 hK25 v4 v5 v6 v7 v8 ((5 : Int32) - v8) _ _ _ _ hq hH (lv_sub hl [0, 1, 2, 3, 4, 5, 6, 7] rfl)
set_option maxRecDepth 100000 in
set_option maxHeartbeats 4000000 in
theorem s_X0_rotate_11 {k : Nat} {x1 : Int32} {x2 : Int32} {x3 : Int32} {Q : wI → Prop} (hs : wSh k = (0, 0)) (C0 : wCx p m c s args meth cX0_rotate 12 RX0 none D cs ad b) : ∀ (t0 : Int32) (I : wI) (H : Heap) (locs : List Loc) (ls : Array Slot), v_X0_rotate_11 k x1 x2 x3 Q t0 I → wH D cs b G I s H locs → lv_has ls 12 [(0, .ref (b + k)), (1, .int x1), (3, .int x3)] → W p l e rm_X0_rotate s m args below meth c H locs 0 0 (MQ below (va_Qv (Q) (wPo D cs b G) (fun q => b ≤ q)) args s 0 0 (fun q => b ≤ q)) (F0 m 11 ls [.int t0]) := by
  obtain ⟨hX, hr, hlk, hK, hE⟩ := id C0
  have hx := hX.1
  have hb := hX.2.1
  have hown := hX.2.2.2.1
  have hts := hX.2.2.2.2
  intro t0 I H locs ls hq hH hl
  unfold v_X0_rotate_11 at hq
  refine lv_istore (lv' := [(4, .int t0), (0, .ref (b + k)), (1, .int x1), (3, .int x3)]) hx hb dX0_rotate_11 hl (by decide) rfl (fun ls hl => ?_)
  refine lv_iconst (v := -1) hx hb dX0_rotate_13 (by decide) ?_
  refine lv_istore (lv' := [(5, .int (-1 : Int32)), (4, .int t0), (0, .ref (b + k)), (1, .int x1), (3, .int x3)]) hx hb dX0_rotate_14 hl (by decide) rfl (fun ls hl => ?_)
  refine lv_iconst (v := 0) hx hb dX0_rotate_16 (by decide) ?_
  refine lv_istore (lv' := [(6, .int (0 : Int32)), (5, .int (-1 : Int32)), (4, .int t0), (0, .ref (b + k)), (1, .int x1), (3, .int x3)]) hx hb dX0_rotate_17 hl (by decide) rfl (fun ls hl => ?_)
  refine lv_iconst (v := 0) hx hb dX0_rotate_19 (by decide) ?_
  refine lv_istore (lv' := [(7, .int (0 : Int32)), (6, .int (0 : Int32)), (5, .int (-1 : Int32)), (4, .int t0), (0, .ref (b + k)), (1, .int x1), (3, .int x3)]) hx hb dX0_rotate_20 hl (by decide) rfl (fun ls hl => ?_)
  refine lv_iconst (v := 0) hx hb dX0_rotate_22 (by decide) ?_
  refine lv_istore (lv' := [(8, .int (0 : Int32)), (7, .int (0 : Int32)), (6, .int (0 : Int32)), (5, .int (-1 : Int32)), (4, .int t0), (0, .ref (b + k)), (1, .int x1), (3, .int x3)]) hx hb dX0_rotate_23 hl (by decide) rfl (fun ls hl => ?_)
  obtain ⟨f, hq⟩ := hq
  exact s_X0_rotate_25 hs C0  f t0 (-1 : Int32) (0 : Int32) (0 : Int32) (0 : Int32) _ _ _ _ hq hH (lv_sub hl [5, 6, 7, 4, 3, 2, 1, 0] rfl)
set_option maxRecDepth 100000 in
set_option maxHeartbeats 4000000 in
theorem c_X0_rotate {l : Launch} {D : va_G} {cs : wC4} {ad : Nat → Nat} {b : Nat} {G : wG} {k : Nat} (hs : wSh k = (0, 0)) (x1 : Int32) (x2 : Int32) (x3 : Int32) (I : wI) (hp : pre_X0_rotate k x1 x2 x3 I) : Met l yX0_rotate (ws_ yX0_rotate cX0_rotate 12 none) rm_X0_rotate (va_Pc [.ref (b + k), .int x1, .int x2, .int x3] (wPr D cs ad b G I)) (va_Qv (fun I' => post_X0_rotate k x1 x2 x3 I I') (wPo D cs b G) (fun q => b ≤ q)) 0 0 (fun q => b ≤ q) := by
  have hq := vc_X0_rotate k x1 x2 x3 hs I hp
  refine w_met (by decide) (Nat.le_of_ble_eq_true rfl) ?_
  intro p e s m below meth c hX hr hlk hK hE hH ls hl
  have C0 : wCx p m c s _ meth cX0_rotate 12 RX0 none D cs ad b := ⟨hX, hr, hlk, hK, hE⟩
  have hX : CallFix p m c cX0_rotate 12 s _ lw_all RX0 := hX
  have hx := hX.1
  have hb := hX.2.1
  have hown := hX.2.2.2.1
  have hts := hX.2.2.2.2
  have hl : lv_has ls 12 [(0, .ref (b + k)), (1, .int x1), (2, .int x2), (3, .int x3)] := hl
  unfold v_X0_rotate at hq
  refine lv_iload_n hx hb dX0_rotate_0 rfl (lv_at hl 3 rfl) ?_
  refine lv_if_eq (tgt := 10) hx hb dX0_rotate_1 (by decide) (fun hc => ?_) (fun hc => ?_)
  · have hq := hq.1 hc
    refine lv_iload_n hx hb dX0_rotate_10 rfl (lv_at hl 2 rfl) ?_
    exact s_X0_rotate_11 hs C0  x2 _ _ _ _ hq hH (lv_sub hl [0, 1, 3] rfl)
  · have hq := hq.2 hc
    refine lv_iconst (v := 5) hx hb dX0_rotate_4 (by decide) ?_
    refine lv_iload_n hx hb dX0_rotate_5 rfl (lv_at hl 2 rfl) ?_
    refine lv_isub hx hb dX0_rotate_6 ?_
    refine lv_goto (tgt := 11) hx hb dX0_rotate_7 (by decide) ?_
    exact s_X0_rotate_11 hs C0  ((5 : Int32) - x2) _ _ _ _ hq hH (lv_sub hl [0, 1, 3] rfl)
abbrev rm_X1_move : Room := { frames := 1, cells := 0, slots := 0, locals := 31 }
theorem hd_X1_move : yX1_move.cls = RX1 ∧ yX1_move.cls ≠ "java/lang/invoke/MethodHandle" ∧ yX1_move.cls ≠ "java/lang/invoke/VarHandle" ∧ (parseMethodDescriptor yX1_move.desc).map (fun d => d.parameters.length) = some 2 := by decide +kernel
set_option maxRecDepth 100000 in
set_option maxHeartbeats 4000000 in
theorem c_X1_move {l : Launch} {D : va_G} {cs : wC4} {ad : Nat → Nat} {b : Nat} {G : wG} {k : Nat} {k1 : Nat} (hs : wSh k = (0, 1)) (hs1 : wSh k1 = (0, 0)) (x2 : Int32) (I : wI) (hp : pre_X1_move k k1 x2 I) : Met l yX1_move (ws_ yX1_move cX1_move 4 none) rm_X1_move (va_Pc [.ref (b + k), .ref (b + k1), .int x2] (wPr D cs ad b G I)) (va_Qv (fun I' => post_X1_move k k1 x2 I I') (wPo D cs b G) (fun q => b ≤ q)) 0 0 (fun q => b ≤ q) := by
  have hq := vc_X1_move k k1 x2 hs hs1 I hp
  refine w_met (by decide) (Nat.le_of_ble_eq_true rfl) ?_
  intro p e s m below meth c hX hr hlk hK hE hH ls hl
  have C0 : wCx p m c s _ meth cX1_move 4 RX1 none D cs ad b := ⟨hX, hr, hlk, hK, hE⟩
  have hX : CallFix p m c cX1_move 4 s _ lw_all RX1 := hX
  have hx := hX.1
  have hb := hX.2.1
  have hown := hX.2.2.2.1
  have hts := hX.2.2.2.2
  have hl : lv_has ls 4 [(0, .ref (b + k)), (1, .ref (b + k1)), (2, .int x2)] := hl
  unfold v_X1_move at hq
  refine lv_iload_n hx hb dX1_move_0 rfl (lv_at hl 2 rfl) ?_
  obtain ⟨hp, hq⟩ := hq
  refine w_cIp hH (w_rSN (As := [.int x2]) (rest := []) hX hK hE hH (c_X5_keyOf  _ _ hp) qn2_98 q2_76 q1_1 q2_77 hd_X5_keyOf.2 ⟨Nat.le_of_ble_eq_true rfl, Nat.le_of_ble_eq_true rfl⟩ ⟨rfl, rfl⟩ rfl hl.1 rfl (Nat.le_of_ble_eq_true rfl) dX1_move_1 ⟨Nat.zero_le _, Nat.zero_le _⟩) (fun r1  H locs hpo hH => ?_)
  have hq := hq r1  hpo
  refine lv_istore_n (lv' := [(3, .int r1), (0, .ref (b + k)), (1, .ref (b + k1)), (2, .int x2)]) hx hb dX1_move_4 rfl hl (by decide) rfl (fun ls hl => ?_)
  refine lv_aload_n hx hb dX1_move_5 rfl (lv_at hl 2 rfl) ?_
  refine lv_aload_n hx hb dX1_move_6 rfl (lv_at hl 1 rfl) ?_
  refine lv_iload_n hx hb dX1_move_7 rfl (lv_at hl 0 rfl) ?_
  obtain ⟨hp, hq⟩ := hq
  refine w_cIp hH (w_rV (As := [.int r1]) (rest := [.ref (b + k1)]) hX hK hE hH (c_X1_maskOf hs _ _ hp) ck1 hs q2_99 q2_100 q2_101 q1_4 q2_102 hd_X1_maskOf ⟨Nat.le_of_ble_eq_true rfl, Nat.le_of_ble_eq_true rfl⟩ ⟨rfl, rfl⟩ rfl hl.1 rfl (Nat.le_of_ble_eq_true rfl) dX1_move_8 ⟨Nat.zero_le _, Nat.zero_le _⟩) (fun r2  H locs hpo hH => ?_)
  have hq := hq r2  hpo
  refine lv_aload_n hx hb dX1_move_11 rfl (lv_at hl 1 rfl) ?_
  refine lv_iload_n hx hb dX1_move_12 rfl (lv_at hl 0 rfl) ?_
  obtain ⟨hp, hq⟩ := hq
  refine w_cIp hH (w_rV (As := [.int r1]) (rest := [.int r2, .ref (b + k1)]) hX hK hE hH (c_X1_strengthOf hs _ _ hp) ck1 hs q2_103 q2_104 q2_105 q1_4 q2_106 hd_X1_strengthOf ⟨Nat.le_of_ble_eq_true rfl, Nat.le_of_ble_eq_true rfl⟩ ⟨rfl, rfl⟩ rfl hl.1 rfl (Nat.le_of_ble_eq_true rfl) dX1_move_13 ⟨Nat.zero_le _, Nat.zero_le _⟩) (fun r3  H locs hpo hH => ?_)
  have hq := hq r3  hpo
  refine lv_iload_n hx hb dX1_move_16 rfl (lv_at hl 3 rfl) ?_
  obtain ⟨hp, hq⟩ := hq
  refine w_cIp hH (w_rSN (As := [.int x2]) (rest := [.int r3, .int r2, .ref (b + k1)]) hX hK hE hH (c_X5_isBack  _ _ hp) qn2_107 q2_79 q1_1 q2_80 hd_X5_isBack.2 ⟨Nat.le_of_ble_eq_true rfl, Nat.le_of_ble_eq_true rfl⟩ ⟨rfl, rfl⟩ rfl hl.1 rfl (Nat.le_of_ble_eq_true rfl) dX1_move_17 ⟨Nat.zero_le _, Nat.zero_le _⟩) (fun r4  H locs hpo hH => ?_)
  have hq := hq r4  hpo
  obtain ⟨hp, hq⟩ := hq
  refine w_cV hH (w_rV (As := [.int r2, .int r3, .int r4]) (rest := []) hX hK hE hH (c_X0_rotate hs1 _ _ _ _ hp) ck0 hs1 q2_108 q2_109 q2_110 q1_3 q2_111 hd_X0_rotate ⟨Nat.le_of_ble_eq_true rfl, Nat.le_of_ble_eq_true rfl⟩ ⟨rfl, rfl⟩ rfl hl.1 rfl (Nat.le_of_ble_eq_true rfl) dX1_move_20 ⟨Nat.zero_le _, Nat.zero_le _⟩) (fun  I5 H locs hpo hH => ?_)
  have hq := hq  I5 hpo
  exact w_eV hX hr hlk hH hq dX1_move_23
abbrev rm_J_bitCount : Room := { frames := 0, cells := 0, slots := 0, locals := 0 }
theorem hd_J_bitCount : yJ6_bitCount_0f7a4.cls = RJ6 ∧ yJ6_bitCount_0f7a4.cls ≠ "java/lang/invoke/MethodHandle" ∧ yJ6_bitCount_0f7a4.cls ≠ "java/lang/invoke/VarHandle" ∧ (parseMethodDescriptor yJ6_bitCount_0f7a4.desc).map (fun d => d.parameters.length) = some 1 := by decide +kernel
set_option maxRecDepth 100000 in
set_option maxHeartbeats 4000000 in
theorem c_J_bitCount {l : Launch} {D : va_G} {cs : wC4} {ad : Nat → Nat} {b : Nat} {G : wG} (x0 : Int32) (I : wI) (hp : pre_J_bitCount x0 I) : Met l yJ6_bitCount_0f7a4 (ws_ yJ6_bitCount_0f7a4 cJ6_bitCount_0f7a4 1 (some .int)) rm_J_bitCount (va_Pc [.int x0] (wPr D cs ad b G I)) (va_Qi (fun r I' => I' = I ∧ post_J_bitCount x0 I r) (wPo D cs b G) (fun q => b ≤ q)) 0 0 (fun q => b ≤ q) := by
  have hq := vc_J_bitCount x0 I hp
  refine w_metF (by decide +kernel) (Nat.le_of_ble_eq_true rfl) ?_
  intro p e s m below meth c hX hr hlk hK hE hH ls hl
  have C0 : wCx p m c s _ meth cJ6_bitCount_0f7a4 1 RJ6 (some .int) D cs ad b := ⟨hX, hr, hlk, hK, hE⟩
  have hX : CallFix p m c cJ6_bitCount_0f7a4 1 s _ lw_all RJ6 := hX
  have hx := hX.1
  have hb := hX.2.1
  have hown := hX.2.2.2.1
  have hts := hX.2.2.2.2
  have hl : lv_has ls 1 [(0, .int x0)] := hl
  unfold v_J_bitCount at hq
  refine lv_iload_n hx hb dJ6_bitCount_0f7a4_0 rfl (lv_at hl 0 rfl) ?_
  refine lv_iload_n hx hb dJ6_bitCount_0f7a4_1 rfl (lv_at hl 0 rfl) ?_
  refine lv_iconst (v := 1) hx hb dJ6_bitCount_0f7a4_2 (by decide) ?_
  refine lv_iushr hx hb dJ6_bitCount_0f7a4_3 rfl ?_
  refine lv_ldcw hx hb hown (hts _ q2_1) dJ6_bitCount_0f7a4_4 ?_
  refine lv_iand hx hb dJ6_bitCount_0f7a4_7 ?_
  refine lv_isub hx hb dJ6_bitCount_0f7a4_8 ?_
  refine lv_istore_n (lv' := [(0, .int (x0 - (((x0).toUInt32 >>> (((1 : Int32)).toUInt32 &&& Int32.toUInt32 31)).toInt32 &&& (1431655765 : Int32))))]) hx hb dJ6_bitCount_0f7a4_9 rfl hl (by decide) rfl (fun ls hl => ?_)
  refine lv_iload_n hx hb dJ6_bitCount_0f7a4_10 rfl (lv_at hl 0 rfl) ?_
  refine lv_ldcw hx hb hown (hts _ q2_2) dJ6_bitCount_0f7a4_11 ?_
  refine lv_iand hx hb dJ6_bitCount_0f7a4_14 ?_
  refine lv_iload_n hx hb dJ6_bitCount_0f7a4_15 rfl (lv_at hl 0 rfl) ?_
  refine lv_iconst (v := 2) hx hb dJ6_bitCount_0f7a4_16 (by decide) ?_
  refine lv_iushr hx hb dJ6_bitCount_0f7a4_17 rfl ?_
  refine lv_ldcw hx hb hown (hts _ q2_2) dJ6_bitCount_0f7a4_18 ?_
  refine lv_iand hx hb dJ6_bitCount_0f7a4_21 ?_
  refine lv_iadd hx hb dJ6_bitCount_0f7a4_22 ?_
  refine lv_istore_n (lv' := [(0, .int (((x0 - (((x0).toUInt32 >>> (((1 : Int32)).toUInt32 &&& Int32.toUInt32 31)).toInt32 &&& (1431655765 : Int32))) &&& (858993459 : Int32)) + ((((x0 - (((x0).toUInt32 >>> (((1 : Int32)).toUInt32 &&& Int32.toUInt32 31)).toInt32 &&& (1431655765 : Int32)))).toUInt32 >>> (((2 : Int32)).toUInt32 &&& Int32.toUInt32 31)).toInt32 &&& (858993459 : Int32))))]) hx hb dJ6_bitCount_0f7a4_23 rfl hl (by decide) rfl (fun ls hl => ?_)
  refine lv_iload_n hx hb dJ6_bitCount_0f7a4_24 rfl (lv_at hl 0 rfl) ?_
  refine lv_iload_n hx hb dJ6_bitCount_0f7a4_25 rfl (lv_at hl 0 rfl) ?_
  refine lv_iconst (v := 4) hx hb dJ6_bitCount_0f7a4_26 (by decide) ?_
  refine lv_iushr hx hb dJ6_bitCount_0f7a4_27 rfl ?_
  refine lv_iadd hx hb dJ6_bitCount_0f7a4_28 ?_
  refine lv_ldcw hx hb hown (hts _ q2_3) dJ6_bitCount_0f7a4_29 ?_
  refine lv_iand hx hb dJ6_bitCount_0f7a4_32 ?_
  refine lv_istore_n (lv' := [(0, .int (((((x0 - (((x0).toUInt32 >>> (((1 : Int32)).toUInt32 &&& Int32.toUInt32 31)).toInt32 &&& (1431655765 : Int32))) &&& (858993459 : Int32)) + ((((x0 - (((x0).toUInt32 >>> (((1 : Int32)).toUInt32 &&& Int32.toUInt32 31)).toInt32 &&& (1431655765 : Int32)))).toUInt32 >>> (((2 : Int32)).toUInt32 &&& Int32.toUInt32 31)).toInt32 &&& (858993459 : Int32))) + (((((x0 - (((x0).toUInt32 >>> (((1 : Int32)).toUInt32 &&& Int32.toUInt32 31)).toInt32 &&& (1431655765 : Int32))) &&& (858993459 : Int32)) + ((((x0 - (((x0).toUInt32 >>> (((1 : Int32)).toUInt32 &&& Int32.toUInt32 31)).toInt32 &&& (1431655765 : Int32)))).toUInt32 >>> (((2 : Int32)).toUInt32 &&& Int32.toUInt32 31)).toInt32 &&& (858993459 : Int32)))).toUInt32 >>> (((4 : Int32)).toUInt32 &&& Int32.toUInt32 31)).toInt32) &&& (252645135 : Int32)))]) hx hb dJ6_bitCount_0f7a4_33 rfl hl (by decide) rfl (fun ls hl => ?_)
  refine lv_iload_n hx hb dJ6_bitCount_0f7a4_34 rfl (lv_at hl 0 rfl) ?_
  refine lv_iload_n hx hb dJ6_bitCount_0f7a4_35 rfl (lv_at hl 0 rfl) ?_
  refine lv_bipush (v := 8) hx hb dJ6_bitCount_0f7a4_36 (by decide) ?_
  refine lv_iushr hx hb dJ6_bitCount_0f7a4_38 rfl ?_
  refine lv_iadd hx hb dJ6_bitCount_0f7a4_39 ?_
  refine lv_istore_n (lv' := [(0, .int ((((((x0 - (((x0).toUInt32 >>> (((1 : Int32)).toUInt32 &&& Int32.toUInt32 31)).toInt32 &&& (1431655765 : Int32))) &&& (858993459 : Int32)) + ((((x0 - (((x0).toUInt32 >>> (((1 : Int32)).toUInt32 &&& Int32.toUInt32 31)).toInt32 &&& (1431655765 : Int32)))).toUInt32 >>> (((2 : Int32)).toUInt32 &&& Int32.toUInt32 31)).toInt32 &&& (858993459 : Int32))) + (((((x0 - (((x0).toUInt32 >>> (((1 : Int32)).toUInt32 &&& Int32.toUInt32 31)).toInt32 &&& (1431655765 : Int32))) &&& (858993459 : Int32)) + ((((x0 - (((x0).toUInt32 >>> (((1 : Int32)).toUInt32 &&& Int32.toUInt32 31)).toInt32 &&& (1431655765 : Int32)))).toUInt32 >>> (((2 : Int32)).toUInt32 &&& Int32.toUInt32 31)).toInt32 &&& (858993459 : Int32)))).toUInt32 >>> (((4 : Int32)).toUInt32 &&& Int32.toUInt32 31)).toInt32) &&& (252645135 : Int32)) + (((((((x0 - (((x0).toUInt32 >>> (((1 : Int32)).toUInt32 &&& Int32.toUInt32 31)).toInt32 &&& (1431655765 : Int32))) &&& (858993459 : Int32)) + ((((x0 - (((x0).toUInt32 >>> (((1 : Int32)).toUInt32 &&& Int32.toUInt32 31)).toInt32 &&& (1431655765 : Int32)))).toUInt32 >>> (((2 : Int32)).toUInt32 &&& Int32.toUInt32 31)).toInt32 &&& (858993459 : Int32))) + (((((x0 - (((x0).toUInt32 >>> (((1 : Int32)).toUInt32 &&& Int32.toUInt32 31)).toInt32 &&& (1431655765 : Int32))) &&& (858993459 : Int32)) + ((((x0 - (((x0).toUInt32 >>> (((1 : Int32)).toUInt32 &&& Int32.toUInt32 31)).toInt32 &&& (1431655765 : Int32)))).toUInt32 >>> (((2 : Int32)).toUInt32 &&& Int32.toUInt32 31)).toInt32 &&& (858993459 : Int32)))).toUInt32 >>> (((4 : Int32)).toUInt32 &&& Int32.toUInt32 31)).toInt32) &&& (252645135 : Int32))).toUInt32 >>> (((8 : Int32)).toUInt32 &&& Int32.toUInt32 31)).toInt32))]) hx hb dJ6_bitCount_0f7a4_40 rfl hl (by decide) rfl (fun ls hl => ?_)
  refine lv_iload_n hx hb dJ6_bitCount_0f7a4_41 rfl (lv_at hl 0 rfl) ?_
  refine lv_iload_n hx hb dJ6_bitCount_0f7a4_42 rfl (lv_at hl 0 rfl) ?_
  refine lv_bipush (v := 16) hx hb dJ6_bitCount_0f7a4_43 (by decide) ?_
  refine lv_iushr hx hb dJ6_bitCount_0f7a4_45 rfl ?_
  refine lv_iadd hx hb dJ6_bitCount_0f7a4_46 ?_
  refine lv_istore_n (lv' := [(0, .int (((((((x0 - (((x0).toUInt32 >>> (((1 : Int32)).toUInt32 &&& Int32.toUInt32 31)).toInt32 &&& (1431655765 : Int32))) &&& (858993459 : Int32)) + ((((x0 - (((x0).toUInt32 >>> (((1 : Int32)).toUInt32 &&& Int32.toUInt32 31)).toInt32 &&& (1431655765 : Int32)))).toUInt32 >>> (((2 : Int32)).toUInt32 &&& Int32.toUInt32 31)).toInt32 &&& (858993459 : Int32))) + (((((x0 - (((x0).toUInt32 >>> (((1 : Int32)).toUInt32 &&& Int32.toUInt32 31)).toInt32 &&& (1431655765 : Int32))) &&& (858993459 : Int32)) + ((((x0 - (((x0).toUInt32 >>> (((1 : Int32)).toUInt32 &&& Int32.toUInt32 31)).toInt32 &&& (1431655765 : Int32)))).toUInt32 >>> (((2 : Int32)).toUInt32 &&& Int32.toUInt32 31)).toInt32 &&& (858993459 : Int32)))).toUInt32 >>> (((4 : Int32)).toUInt32 &&& Int32.toUInt32 31)).toInt32) &&& (252645135 : Int32)) + (((((((x0 - (((x0).toUInt32 >>> (((1 : Int32)).toUInt32 &&& Int32.toUInt32 31)).toInt32 &&& (1431655765 : Int32))) &&& (858993459 : Int32)) + ((((x0 - (((x0).toUInt32 >>> (((1 : Int32)).toUInt32 &&& Int32.toUInt32 31)).toInt32 &&& (1431655765 : Int32)))).toUInt32 >>> (((2 : Int32)).toUInt32 &&& Int32.toUInt32 31)).toInt32 &&& (858993459 : Int32))) + (((((x0 - (((x0).toUInt32 >>> (((1 : Int32)).toUInt32 &&& Int32.toUInt32 31)).toInt32 &&& (1431655765 : Int32))) &&& (858993459 : Int32)) + ((((x0 - (((x0).toUInt32 >>> (((1 : Int32)).toUInt32 &&& Int32.toUInt32 31)).toInt32 &&& (1431655765 : Int32)))).toUInt32 >>> (((2 : Int32)).toUInt32 &&& Int32.toUInt32 31)).toInt32 &&& (858993459 : Int32)))).toUInt32 >>> (((4 : Int32)).toUInt32 &&& Int32.toUInt32 31)).toInt32) &&& (252645135 : Int32))).toUInt32 >>> (((8 : Int32)).toUInt32 &&& Int32.toUInt32 31)).toInt32) + ((((((((x0 - (((x0).toUInt32 >>> (((1 : Int32)).toUInt32 &&& Int32.toUInt32 31)).toInt32 &&& (1431655765 : Int32))) &&& (858993459 : Int32)) + ((((x0 - (((x0).toUInt32 >>> (((1 : Int32)).toUInt32 &&& Int32.toUInt32 31)).toInt32 &&& (1431655765 : Int32)))).toUInt32 >>> (((2 : Int32)).toUInt32 &&& Int32.toUInt32 31)).toInt32 &&& (858993459 : Int32))) + (((((x0 - (((x0).toUInt32 >>> (((1 : Int32)).toUInt32 &&& Int32.toUInt32 31)).toInt32 &&& (1431655765 : Int32))) &&& (858993459 : Int32)) + ((((x0 - (((x0).toUInt32 >>> (((1 : Int32)).toUInt32 &&& Int32.toUInt32 31)).toInt32 &&& (1431655765 : Int32)))).toUInt32 >>> (((2 : Int32)).toUInt32 &&& Int32.toUInt32 31)).toInt32 &&& (858993459 : Int32)))).toUInt32 >>> (((4 : Int32)).toUInt32 &&& Int32.toUInt32 31)).toInt32) &&& (252645135 : Int32)) + (((((((x0 - (((x0).toUInt32 >>> (((1 : Int32)).toUInt32 &&& Int32.toUInt32 31)).toInt32 &&& (1431655765 : Int32))) &&& (858993459 : Int32)) + ((((x0 - (((x0).toUInt32 >>> (((1 : Int32)).toUInt32 &&& Int32.toUInt32 31)).toInt32 &&& (1431655765 : Int32)))).toUInt32 >>> (((2 : Int32)).toUInt32 &&& Int32.toUInt32 31)).toInt32 &&& (858993459 : Int32))) + (((((x0 - (((x0).toUInt32 >>> (((1 : Int32)).toUInt32 &&& Int32.toUInt32 31)).toInt32 &&& (1431655765 : Int32))) &&& (858993459 : Int32)) + ((((x0 - (((x0).toUInt32 >>> (((1 : Int32)).toUInt32 &&& Int32.toUInt32 31)).toInt32 &&& (1431655765 : Int32)))).toUInt32 >>> (((2 : Int32)).toUInt32 &&& Int32.toUInt32 31)).toInt32 &&& (858993459 : Int32)))).toUInt32 >>> (((4 : Int32)).toUInt32 &&& Int32.toUInt32 31)).toInt32) &&& (252645135 : Int32))).toUInt32 >>> (((8 : Int32)).toUInt32 &&& Int32.toUInt32 31)).toInt32)).toUInt32 >>> (((16 : Int32)).toUInt32 &&& Int32.toUInt32 31)).toInt32))]) hx hb dJ6_bitCount_0f7a4_47 rfl hl (by decide) rfl (fun ls hl => ?_)
  refine lv_iload_n hx hb dJ6_bitCount_0f7a4_48 rfl (lv_at hl 0 rfl) ?_
  refine lv_bipush (v := 63) hx hb dJ6_bitCount_0f7a4_49 (by decide) ?_
  refine lv_iand hx hb dJ6_bitCount_0f7a4_51 ?_
  exact w_eI hX hr hlk hH ⟨rfl, hq⟩ dJ6_bitCount_0f7a4_52
abbrev rm_X1_notchesBy : Room := { frames := 1, cells := 0, slots := 0, locals := 21 }
theorem hd_X1_notchesBy : yX1_notchesBy.cls = RX1 ∧ yX1_notchesBy.cls ≠ "java/lang/invoke/MethodHandle" ∧ yX1_notchesBy.cls ≠ "java/lang/invoke/VarHandle" ∧ (parseMethodDescriptor yX1_notchesBy.desc).map (fun d => d.parameters.length) = some 1 := by decide +kernel
set_option maxRecDepth 100000 in
set_option maxHeartbeats 4000000 in
theorem s_X1_notchesBy_33 {k : Nat} {x1 : Int32} {I : wI} {Q : Int32 → Prop} (hs : wSh k = (0, 1)) (C0 : wCx p m c s args meth cX1_notchesBy 4 RX1 (some .int) D cs ad b) : ∀ (t0 : Int32) (H : Heap) (locs : List Loc) (ls : Array Slot), v_X1_notchesBy_33 k x1 I Q t0 → wH D cs b G I s H locs → lv_has ls 4 [] → W p l e rm_X1_notchesBy s m args below meth c H locs 0 0 (MQ below (va_Qi (fun r I' => I' = I ∧ Q r) (wPo D cs b G) (fun q => b ≤ q)) args s 0 0 (fun q => b ≤ q)) (F0 m 33 ls [.int t0]) := by
  obtain ⟨hX, hr, hlk, hK, hE⟩ := id C0
  have hx := hX.1
  have hb := hX.2.1
  have hown := hX.2.2.2.1
  have hts := hX.2.2.2.2
  intro t0 H locs ls hq hH hl
  unfold v_X1_notchesBy_33 at hq
  exact w_eI hX hr hlk hH ⟨rfl, hq⟩ dX1_notchesBy_33
set_option maxRecDepth 100000 in
set_option maxHeartbeats 4000000 in
theorem c_X1_notchesBy {l : Launch} {D : va_G} {cs : wC4} {ad : Nat → Nat} {b : Nat} {G : wG} {k : Nat} (hs : wSh k = (0, 1)) (x1 : Int32) (I : wI) (hp : pre_X1_notchesBy k x1 I) : Met l yX1_notchesBy (ws_ yX1_notchesBy cX1_notchesBy 4 (some .int)) rm_X1_notchesBy (va_Pc [.ref (b + k), .int x1] (wPr D cs ad b G I)) (va_Qi (fun r I' => I' = I ∧ post_X1_notchesBy k x1 I r) (wPo D cs b G) (fun q => b ≤ q)) 0 0 (fun q => b ≤ q) := by
  have hq := vc_X1_notchesBy k x1 hs I hp
  refine w_met (by decide) (Nat.le_of_ble_eq_true rfl) ?_
  intro p e s m below meth c hX hr hlk hK hE hH ls hl
  have C0 : wCx p m c s _ meth cX1_notchesBy 4 RX1 (some .int) D cs ad b := ⟨hX, hr, hlk, hK, hE⟩
  have hX : CallFix p m c cX1_notchesBy 4 s _ lw_all RX1 := hX
  have hx := hX.1
  have hb := hX.2.1
  have hown := hX.2.2.2.1
  have hts := hX.2.2.2.2
  have hl : lv_has ls 4 [(0, .ref (b + k)), (1, .int x1)] := hl
  unfold v_X1_notchesBy at hq
  refine lv_iload_n hx hb dX1_notchesBy_0 rfl (lv_at hl 1 rfl) ?_
  obtain ⟨hp, hq⟩ := hq
  refine w_cIp hH (w_rSN (As := [.int x1]) (rest := []) hX hK hE hH (c_X5_keyOf  _ _ hp) qn2_98 q2_76 q1_1 q2_77 hd_X5_keyOf.2 ⟨Nat.le_of_ble_eq_true rfl, Nat.le_of_ble_eq_true rfl⟩ ⟨rfl, rfl⟩ rfl hl.1 rfl (Nat.le_of_ble_eq_true rfl) dX1_notchesBy_1 ⟨Nat.zero_le _, Nat.zero_le _⟩) (fun r1  H locs hpo hH => ?_)
  have hq := hq r1  hpo
  refine lv_istore_n (lv' := [(2, .int r1), (0, .ref (b + k)), (1, .int x1)]) hx hb dX1_notchesBy_4 rfl hl (by decide) rfl (fun ls hl => ?_)
  refine lv_aload_n hx hb dX1_notchesBy_5 rfl (lv_at hl 1 rfl) ?_
  refine lv_iload_n hx hb dX1_notchesBy_6 rfl (lv_at hl 0 rfl) ?_
  obtain ⟨hp, hq⟩ := hq
  refine w_cIp hH (w_rV (As := [.int r1]) (rest := []) hX hK hE hH (c_X1_strengthOf hs _ _ hp) ck1 hs q2_103 q2_104 q2_105 q1_4 q2_106 hd_X1_strengthOf ⟨Nat.le_of_ble_eq_true rfl, Nat.le_of_ble_eq_true rfl⟩ ⟨rfl, rfl⟩ rfl hl.1 rfl (Nat.le_of_ble_eq_true rfl) dX1_notchesBy_7 ⟨Nat.zero_le _, Nat.zero_le _⟩) (fun r2  H locs hpo hH => ?_)
  have hq := hq r2  hpo
  refine lv_aload_n hx hb dX1_notchesBy_10 rfl (lv_at hl 1 rfl) ?_
  refine lv_iload_n hx hb dX1_notchesBy_11 rfl (lv_at hl 0 rfl) ?_
  obtain ⟨hp, hq⟩ := hq
  refine w_cIp hH (w_rV (As := [.int r1]) (rest := [.int r2]) hX hK hE hH (c_X1_maskOf hs _ _ hp) ck1 hs q2_99 q2_100 q2_101 q1_4 q2_102 hd_X1_maskOf ⟨Nat.le_of_ble_eq_true rfl, Nat.le_of_ble_eq_true rfl⟩ ⟨rfl, rfl⟩ rfl hl.1 rfl (Nat.le_of_ble_eq_true rfl) dX1_notchesBy_12 ⟨Nat.zero_le _, Nat.zero_le _⟩) (fun r3  H locs hpo hH => ?_)
  have hq := hq r3  hpo
  obtain ⟨hp, hq⟩ := hq
  refine w_cIp hH (w_rS (As := [.int r3]) (rest := [.int r2]) hX hK hE hH (c_J_bitCount  _ _ hp) q3_187 q1_239 q1_13 q2_0 hd_J_bitCount.2 ⟨Nat.le_of_ble_eq_true rfl, Nat.le_of_ble_eq_true rfl⟩ ⟨rfl, rfl⟩ rfl hl.1 rfl (Nat.le_of_ble_eq_true rfl) dX1_notchesBy_15 ⟨Nat.zero_le _, Nat.zero_le _⟩) (fun r4  H locs hpo hH => ?_)
  have hq := hq r4  hpo
  refine lv_imul hx hb dX1_notchesBy_18 ?_
  refine lv_istore_n (lv' := [(3, .int (r2 * r4)), (2, .int r1), (0, .ref (b + k)), (1, .int x1)]) hx hb dX1_notchesBy_19 rfl hl (by decide) rfl (fun ls hl => ?_)
  refine lv_iload_n hx hb dX1_notchesBy_20 rfl (lv_at hl 3 rfl) ?_
  obtain ⟨hp, hq⟩ := hq
  refine w_cIp hH (w_rSN (As := [.int x1]) (rest := []) hX hK hE hH (c_X5_isBack  _ _ hp) qn2_107 q2_79 q1_1 q2_80 hd_X5_isBack.2 ⟨Nat.le_of_ble_eq_true rfl, Nat.le_of_ble_eq_true rfl⟩ ⟨rfl, rfl⟩ rfl hl.1 rfl (Nat.le_of_ble_eq_true rfl) dX1_notchesBy_21 ⟨Nat.zero_le _, Nat.zero_le _⟩) (fun r5  H locs hpo hH => ?_)
  have hq := hq r5  hpo
  refine lv_if_eq (tgt := 32) hx hb dX1_notchesBy_24 (by decide) (fun hc => ?_) (fun hc => ?_)
  · have hq := hq.1 hc
    refine lv_iload_n hx hb dX1_notchesBy_32 rfl (lv_at hl 0 rfl) ?_
    exact s_X1_notchesBy_33 hs C0  (r2 * r4) _ _ _ hq hH (lv_sub hl [] rfl)
  · have hq := hq.2 hc
    refine lv_iload_n hx hb dX1_notchesBy_27 rfl (lv_at hl 0 rfl) ?_
    refine lv_ineg hx hb dX1_notchesBy_28 ?_
    refine lv_goto (tgt := 33) hx hb dX1_notchesBy_29 (by decide) ?_
    exact s_X1_notchesBy_33 hs C0  (-(r2 * r4)) _ _ _ hq hH (lv_sub hl [] rfl)
abbrev rm_J_floorMod : Room := { frames := 0, cells := 0, slots := 0, locals := 0 }
theorem hd_J_floorMod : yJ9_floorMod_7cf53.cls = RJ9 ∧ yJ9_floorMod_7cf53.cls ≠ "java/lang/invoke/MethodHandle" ∧ yJ9_floorMod_7cf53.cls ≠ "java/lang/invoke/VarHandle" ∧ (parseMethodDescriptor yJ9_floorMod_7cf53.desc).map (fun d => d.parameters.length) = some 2 := by decide +kernel
set_option maxRecDepth 100000 in
set_option maxHeartbeats 4000000 in
theorem s_J_floorMod_18 {x0 : Int32} {x1 : Int32} {I : wI} {Q : Int32 → Prop} (C0 : wCx p m c s args meth cJ9_floorMod_7cf53 3 RJ9 (some .int) D cs ad b) : ∀ (v2 : Int32) (H : Heap) (locs : List Loc) (ls : Array Slot), v_J_floorMod_18 x0 x1 I Q v2 → wH D cs b G I s H locs → lv_has ls 3 [(2, .int v2)] → W p l e rm_J_floorMod s m args below meth c H locs 0 0 (MQ below (va_Qi (fun r I' => I' = I ∧ Q r) (wPo D cs b G) (fun q => b ≤ q)) args s 0 0 (fun q => b ≤ q)) (F0 m 18 ls []) := by
  obtain ⟨hX, hr, hlk, hK, hE⟩ := id C0
  have hx := hX.1
  have hb := hX.2.1
  have hown := hX.2.2.2.1
  have hts := hX.2.2.2.2
  intro v2 H locs ls hq hH hl
  unfold v_J_floorMod_18 at hq
  refine lv_iload_n hx hb dJ9_floorMod_7cf53_18 rfl (lv_at hl 0 rfl) ?_
  exact w_eI hX hr hlk hH ⟨rfl, hq⟩ dJ9_floorMod_7cf53_19
set_option maxRecDepth 100000 in
set_option maxHeartbeats 4000000 in
theorem c_J_floorMod {l : Launch} {D : va_G} {cs : wC4} {ad : Nat → Nat} {b : Nat} {G : wG} (x0 : Int32) (x1 : Int32) (I : wI) (hp : pre_J_floorMod x0 x1 I) : Met l yJ9_floorMod_7cf53 (ws_ yJ9_floorMod_7cf53 cJ9_floorMod_7cf53 3 (some .int)) rm_J_floorMod (va_Pc [.int x0, .int x1] (wPr D cs ad b G I)) (va_Qi (fun r I' => I' = I ∧ post_J_floorMod x0 x1 I r) (wPo D cs b G) (fun q => b ≤ q)) 0 0 (fun q => b ≤ q) := by
  have hq := vc_J_floorMod x0 x1 I hp
  refine w_metF (by decide +kernel) (Nat.le_of_ble_eq_true rfl) ?_
  intro p e s m below meth c hX hr hlk hK hE hH ls hl
  have C0 : wCx p m c s _ meth cJ9_floorMod_7cf53 3 RJ9 (some .int) D cs ad b := ⟨hX, hr, hlk, hK, hE⟩
  have hX : CallFix p m c cJ9_floorMod_7cf53 3 s _ lw_all RJ9 := hX
  have hx := hX.1
  have hb := hX.2.1
  have hown := hX.2.2.2.1
  have hts := hX.2.2.2.2
  have hl : lv_has ls 3 [(0, .int x0), (1, .int x1)] := hl
  unfold v_J_floorMod at hq
  refine lv_iload_n hx hb dJ9_floorMod_7cf53_0 rfl (lv_at hl 0 rfl) ?_
  refine lv_iload_n hx hb dJ9_floorMod_7cf53_1 rfl (lv_at hl 1 rfl) ?_
  obtain ⟨hc, hq⟩ := hq
  refine lv_irem hx hb dJ9_floorMod_7cf53_2 hc ?_
  refine lv_istore_n (lv' := [(2, .int (x0 - x0 / x1 * x1)), (0, .int x0), (1, .int x1)]) hx hb dJ9_floorMod_7cf53_3 rfl hl (by decide) rfl (fun ls hl => ?_)
  refine lv_iload_n hx hb dJ9_floorMod_7cf53_4 rfl (lv_at hl 1 rfl) ?_
  refine lv_iload_n hx hb dJ9_floorMod_7cf53_5 rfl (lv_at hl 2 rfl) ?_
  refine lv_ixor hx hb dJ9_floorMod_7cf53_6 ?_
  refine lv_if_ge (tgt := 18) hx hb dJ9_floorMod_7cf53_7 (by decide) (fun hc => ?_) (fun hc => ?_)
  · have hq := hq.1 hc
    exact s_J_floorMod_18  C0  (x0 - x0 / x1 * x1) _ _ _ hq hH (lv_sub hl [0] rfl)
  · have hq := hq.2 hc
    refine lv_iload_n hx hb dJ9_floorMod_7cf53_10 rfl (lv_at hl 0 rfl) ?_
    refine lv_if_eq (tgt := 18) hx hb dJ9_floorMod_7cf53_11 (by decide) (fun hc => ?_) (fun hc => ?_)
    · have hq := hq.1 hc
      exact s_J_floorMod_18  C0  (x0 - x0 / x1 * x1) _ _ _ hq hH (lv_sub hl [0] rfl)
    · have hq := hq.2 hc
      refine lv_iload_n hx hb dJ9_floorMod_7cf53_14 rfl (lv_at hl 0 rfl) ?_
      refine lv_iload_n hx hb dJ9_floorMod_7cf53_15 rfl (lv_at hl 2 rfl) ?_
      refine lv_iadd hx hb dJ9_floorMod_7cf53_16 ?_
      exact w_eI hX hr hlk hH ⟨rfl, hq⟩ dJ9_floorMod_7cf53_17
abbrev rm_X3_doMove : Room := { frames := 3, cells := 0, slots := 0, locals := 64 }
theorem hd_X3_doMove : yX3_doMove.cls = RX3 ∧ yX3_doMove.cls ≠ "java/lang/invoke/MethodHandle" ∧ yX3_doMove.cls ≠ "java/lang/invoke/VarHandle" ∧ (parseMethodDescriptor yX3_doMove.desc).map (fun d => d.parameters.length) = some 1 := by decide +kernel
set_option maxRecDepth 100000 in
set_option maxHeartbeats 4000000 in
theorem s_X3_doMove_93 {k : Nat} {x1 : Int32} {Q : wI → Prop} (hs : wSh k = (0, 3)) (C0 : wCx p m c s args meth cX3_doMove 4 RX3 none D cs ad b) : ∀  (I : wI) (H : Heap) (locs : List Loc) (ls : Array Slot), v_X3_doMove_93 k x1 Q  I → wH D cs b G I s H locs → lv_has ls 4 [] → W p l e rm_X3_doMove s m args below meth c H locs 0 0 (MQ below (va_Qv (Q) (wPo D cs b G) (fun q => b ≤ q)) args s 0 0 (fun q => b ≤ q)) (F0 m 93 ls []) := by
  obtain ⟨hX, hr, hlk, hK, hE⟩ := id C0
  have hx := hX.1
  have hb := hX.2.1
  have hown := hX.2.2.2.1
  have hts := hX.2.2.2.2
  intro  I H locs ls hq hH hl
  unfold v_X3_doMove_93 at hq
  exact w_eV hX hr hlk hH hq dX3_doMove_93
set_option maxRecDepth 100000 in
set_option maxHeartbeats 4000000 in
theorem s_X3_doMove_72 {k : Nat} {x1 : Int32} {Q : wI → Prop} (hs : wSh k = (0, 3)) (C0 : wCx p m c s args meth cX3_doMove 4 RX3 none D cs ad b) : ∀ (v2 : Int32) (I : wI) (H : Heap) (locs : List Loc) (ls : Array Slot), v_X3_doMove_72 k x1 Q v2 I → wH D cs b G I s H locs → lv_has ls 4 [(0, .ref (b + k)), (2, .int v2)] → W p l e rm_X3_doMove s m args below meth c H locs 0 0 (MQ below (va_Qv (Q) (wPo D cs b G) (fun q => b ≤ q)) args s 0 0 (fun q => b ≤ q)) (F0 m 72 ls []) := by
  obtain ⟨hX, hr, hlk, hK, hE⟩ := id C0
  have hx := hX.1
  have hb := hX.2.1
  have hown := hX.2.2.2.1
  have hts := hX.2.2.2.2
  intro v2 I H locs ls hq hH hl
  unfold v_X3_doMove_72 at hq
  refine lv_iload_n hx hb dX3_doMove_72 rfl (lv_at hl 1 rfl) ?_
  refine lv_if_ne (tgt := 93) hx hb dX3_doMove_73 (by decide) (fun hc => ?_) (fun hc => ?_)
  · have hq := hq.1 hc
    exact s_X3_doMove_93 hs C0   _ _ _ _ hq hH (lv_sub hl [] rfl)
  · have hq := hq.2 hc
    refine lv_aload_n hx hb dX3_doMove_76 rfl (lv_at hl 0 rfl) ?_
    obtain ⟨hp, hq⟩ := hq
    refine w_cIp hH (w_rV (As := []) (rest := []) hX hK hE hH (c_X3_opens hs  _ hp) ck3 hs q3_181 q2_140 q2_141 q1_2 q2_142 hd_X3_opens ⟨Nat.le_of_ble_eq_true rfl, Nat.le_of_ble_eq_true rfl⟩ ⟨rfl, rfl⟩ rfl hl.1 rfl (Nat.le_of_ble_eq_true rfl) dX3_doMove_77 ⟨Nat.zero_le _, Nat.zero_le _⟩) (fun r1  H locs hpo hH => ?_)
    have hq := hq r1  hpo
    refine lv_if_eq (tgt := 93) hx hb dX3_doMove_80 (by decide) (fun hc => ?_) (fun hc => ?_)
    · have hq := hq.1 hc
      exact s_X3_doMove_93 hs C0   _ _ _ _ hq hH (lv_sub hl [] rfl)
    · have hq := hq.2 hc
      refine lv_aload_n hx hb dX3_doMove_83 rfl (lv_at hl 0 rfl) ?_
      refine lv_dup hx hb dX3_doMove_84 rfl ?_
      refine w_geti hX hK hH ck3 hs 8 fi3_8 q1_78 dX3_doMove_85 ?_
      refine lv_iconst (v := 1) hx hb dX3_doMove_88 (by decide) ?_
      refine lv_iadd hx hb dX3_doMove_89 ?_
      refine w_puti hX hK hH ck3 hs 8 fw3_8 q1_78 dX3_doMove_90 (fun I2 H locs hI hH => ?_)
      have hq := hq I2 hI
      exact s_X3_doMove_93 hs C0   _ _ _ _ hq hH (lv_sub hl [] rfl)
set_option maxRecDepth 100000 in
set_option maxHeartbeats 4000000 in
theorem c_X3_doMove {l : Launch} {D : va_G} {cs : wC4} {ad : Nat → Nat} {b : Nat} {G : wG} {k : Nat} (hs : wSh k = (0, 3)) (x1 : Int32) (I : wI) (hp : pre_X3_doMove k x1 I) : Met l yX3_doMove (ws_ yX3_doMove cX3_doMove 4 none) rm_X3_doMove (va_Pc [.ref (b + k), .int x1] (wPr D cs ad b G I)) (va_Qv (fun I' => post_X3_doMove k x1 I I') (wPo D cs b G) (fun q => b ≤ q)) 0 0 (fun q => b ≤ q) := by
  have hq := vc_X3_doMove k x1 hs I hp
  refine w_met (by decide) (Nat.le_of_ble_eq_true rfl) ?_
  intro p e s m below meth c hX hr hlk hK hE hH ls hl
  have C0 : wCx p m c s _ meth cX3_doMove 4 RX3 none D cs ad b := ⟨hX, hr, hlk, hK, hE⟩
  have hX : CallFix p m c cX3_doMove 4 s _ lw_all RX3 := hX
  have hx := hX.1
  have hb := hX.2.1
  have hown := hX.2.2.2.1
  have hts := hX.2.2.2.2
  have hl : lv_has ls 4 [(0, .ref (b + k)), (1, .int x1)] := hl
  unfold v_X3_doMove at hq
  refine lv_aload_n hx hb dX3_doMove_0 rfl (lv_at hl 0 rfl) ?_
  obtain ⟨hp, hq⟩ := hq
  refine w_cIp hH (w_rV (As := []) (rest := []) hX hK hE hH (c_X3_opens hs  _ hp) ck3 hs q3_181 q2_140 q2_141 q1_2 q2_142 hd_X3_opens ⟨Nat.le_of_ble_eq_true rfl, Nat.le_of_ble_eq_true rfl⟩ ⟨rfl, rfl⟩ rfl hl.1 rfl (Nat.le_of_ble_eq_true rfl) dX3_doMove_1 ⟨Nat.zero_le _, Nat.zero_le _⟩) (fun r1  H locs hpo hH => ?_)
  have hq := hq r1  hpo
  refine lv_istore_n (lv' := [(2, .int r1), (0, .ref (b + k)), (1, .int x1)]) hx hb dX3_doMove_4 rfl hl (by decide) rfl (fun ls hl => ?_)
  refine lv_aload_n hx hb dX3_doMove_5 rfl (lv_at hl 1 rfl) ?_
  refine w_getr hX hK hH ck3 hs 1 4 (k + 4) fr3_1 rfl q1_62 dX3_doMove_6 ?_
  refine lv_aload_n hx hb dX3_doMove_9 rfl (lv_at hl 1 rfl) ?_
  refine w_getr hX hK hH ck3 hs 0 1 (k + 1) fr3_0 rfl q1_59 dX3_doMove_10 ?_
  refine lv_iload_n hx hb dX3_doMove_13 rfl (lv_at hl 2 rfl) ?_
  obtain ⟨hp, hq⟩ := hq
  refine w_cV hH (w_rV (As := [.ref (b + (k + 1)), .int x1]) (rest := []) hX hK hE hH (c_X1_move (sf3_1 hs) (sf3_0 hs) _ _ hp) ck1 (sf3_1 hs) q3_182 q2_95 q2_96 q1_4 q2_97 hd_X1_move ⟨Nat.le_of_ble_eq_true rfl, Nat.le_of_ble_eq_true rfl⟩ ⟨rfl, rfl⟩ rfl hl.1 rfl (Nat.le_of_ble_eq_true rfl) dX3_doMove_14 ⟨Nat.zero_le _, Nat.zero_le _⟩) (fun  I2 H locs hpo hH => ?_)
  have hq := hq  I2 hpo
  refine lv_aload_n hx hb dX3_doMove_17 rfl (lv_at hl 1 rfl) ?_
  refine lv_aload_n hx hb dX3_doMove_18 rfl (lv_at hl 1 rfl) ?_
  refine w_geti hX hK hH ck3 hs 7 fi3_7 q1_76 dX3_doMove_19 ?_
  refine lv_aload_n hx hb dX3_doMove_22 rfl (lv_at hl 1 rfl) ?_
  refine w_getr hX hK hH ck3 hs 1 4 (k + 4) fr3_1 rfl q1_62 dX3_doMove_23 ?_
  refine lv_iload_n hx hb dX3_doMove_26 rfl (lv_at hl 2 rfl) ?_
  obtain ⟨hp, hq⟩ := hq
  refine w_cIp hH (w_rV (As := [.int x1]) (rest := [.int (I2 k 7), .ref (b + k)]) hX hK hE hH (c_X1_notchesBy (sf3_1 hs) _ _ hp) ck1 (sf3_1 hs) q3_183 q3_184 q3_185 q1_4 q3_186 hd_X1_notchesBy ⟨Nat.le_of_ble_eq_true rfl, Nat.le_of_ble_eq_true rfl⟩ ⟨rfl, rfl⟩ rfl hl.1 rfl (Nat.le_of_ble_eq_true rfl) dX3_doMove_27 ⟨Nat.zero_le _, Nat.zero_le _⟩) (fun r3  H locs hpo hH => ?_)
  have hq := hq r3  hpo
  refine lv_iadd hx hb dX3_doMove_30 ?_
  refine lv_iconst (v := 5) hx hb dX3_doMove_31 (by decide) ?_
  obtain ⟨hp, hq⟩ := hq
  refine w_cIp hH (w_rS (As := [.int ((I2 k 7) + r3), .int (5 : Int32)]) (rest := [.ref (b + k)]) hX hK hE hH (c_J_floorMod  _ _ _ hp) q3_188 q3_189 q1_14 q3_190 hd_J_floorMod.2 ⟨Nat.le_of_ble_eq_true rfl, Nat.le_of_ble_eq_true rfl⟩ ⟨rfl, rfl⟩ rfl hl.1 rfl (Nat.le_of_ble_eq_true rfl) dX3_doMove_32 ⟨Nat.zero_le _, Nat.zero_le _⟩) (fun r4  H locs hpo hH => ?_)
  have hq := hq r4  hpo
  refine w_puti hX hK hH ck3 hs 7 fw3_7 q1_76 dX3_doMove_35 (fun I5 H locs hI hH => ?_)
  have hq := hq I5 hI
  refine lv_aload_n hx hb dX3_doMove_38 rfl (lv_at hl 1 rfl) ?_
  refine lv_dup hx hb dX3_doMove_39 rfl ?_
  refine w_geti hX hK hH ck3 hs 6 fi3_6 q1_74 dX3_doMove_40 ?_
  refine lv_iconst (v := 1) hx hb dX3_doMove_43 (by decide) ?_
  refine lv_iadd hx hb dX3_doMove_44 ?_
  refine w_puti hX hK hH ck3 hs 6 fw3_6 q1_74 dX3_doMove_45 (fun I6 H locs hI hH => ?_)
  have hq := hq I6 hI
  refine lv_iload_n hx hb dX3_doMove_48 rfl (lv_at hl 2 rfl) ?_
  obtain ⟨hp, hq⟩ := hq
  refine w_cIp hH (w_rSN (As := [.int x1]) (rest := []) hX hK hE hH (c_X5_keyOf  _ _ hp) qn2_152 q2_76 q1_1 q2_77 hd_X5_keyOf.2 ⟨Nat.le_of_ble_eq_true rfl, Nat.le_of_ble_eq_true rfl⟩ ⟨rfl, rfl⟩ rfl hl.1 rfl (Nat.le_of_ble_eq_true rfl) dX3_doMove_49 ⟨Nat.zero_le _, Nat.zero_le _⟩) (fun r7  H locs hpo hH => ?_)
  have hq := hq r7  hpo
  refine lv_istore_n (lv' := [(3, .int r7), (2, .int r1), (0, .ref (b + k)), (1, .int x1)]) hx hb dX3_doMove_52 rfl hl (by decide) rfl (fun ls hl => ?_)
  refine lv_iload_n hx hb dX3_doMove_53 rfl (lv_at hl 0 rfl) ?_
  refine lv_if_lt (tgt := 72) hx hb dX3_doMove_54 (by decide) (fun hc => ?_) (fun hc => ?_)
  · have hq := hq.1 hc
    exact s_X3_doMove_72 hs C0  r1 _ _ _ _ hq hH (lv_sub hl [2, 1] rfl)
  · have hq := hq.2 hc
    refine lv_iload_n hx hb dX3_doMove_57 rfl (lv_at hl 0 rfl) ?_
    refine lv_iconst (v := 5) hx hb dX3_doMove_58 (by decide) ?_
    refine lv_icmp_ge (tgt := 72) hx hb dX3_doMove_59 (by decide) (fun hc => ?_) (fun hc => ?_)
    · have hq := hq.1 hc
      exact s_X3_doMove_72 hs C0  r1 _ _ _ _ hq hH (lv_sub hl [2, 1] rfl)
    · have hq := hq.2 hc
      refine lv_aload_n hx hb dX3_doMove_62 rfl (lv_at hl 2 rfl) ?_
      refine w_getr hX hK hH ck3 hs 5 10 (k + 10) fr3_5 rfl q1_73 dX3_doMove_63 ?_
      refine lv_iload_n hx hb dX3_doMove_66 rfl (lv_at hl 0 rfl) ?_
      refine lv_dup2_11 hx hb dX3_doMove_67 rfl rfl ?_
      obtain ⟨hc, hq⟩ := hq
      refine w_iald hX hK hH (sf3_5 hs) hc dX3_doMove_68 ?_
      refine lv_iconst (v := 1) hx hb dX3_doMove_69 (by decide) ?_
      refine lv_iadd hx hb dX3_doMove_70 ?_
      obtain ⟨hc, hq⟩ := hq
      refine w_iast hX hK hH (sf3_5 hs) hc dX3_doMove_71 (fun I8 H locs hI hH => ?_)
      have hq := hq I8 hI
      exact s_X3_doMove_72 hs C0  r1 _ _ _ _ hq hH (lv_sub hl [2, 1] rfl)
abbrev rm_X4_signAt : Room := { frames := 0, cells := 0, slots := 0, locals := 0 }
theorem hd_X4_signAt : yX4_signAt.cls = RX4 ∧ yX4_signAt.cls ≠ "java/lang/invoke/MethodHandle" ∧ yX4_signAt.cls ≠ "java/lang/invoke/VarHandle" ∧ (parseMethodDescriptor yX4_signAt.desc).map (fun d => d.parameters.length) = some 1 := by decide +kernel
set_option maxRecDepth 100000 in
set_option maxHeartbeats 4000000 in
theorem s_X4_signAt_20 {k : Nat} {x1 : Int32} {I : wI} {Q : Int32 → Prop} (hs : wSh k = (0, 4)) (C0 : wCx p m c s args meth cX4_signAt 2 RX4 (some .char) D cs ad b) : ∀ (t0 : Int32) (H : Heap) (locs : List Loc) (ls : Array Slot), v_X4_signAt_20 k x1 I Q t0 → wH D cs b G I s H locs → lv_has ls 2 [] → W p l e rm_X4_signAt s m args below meth c H locs 0 0 (MQ below (va_Qi (fun r I' => I' = I ∧ Q r) (wPo D cs b G) (fun q => b ≤ q)) args s 0 0 (fun q => b ≤ q)) (F0 m 20 ls [.int t0]) := by
  obtain ⟨hX, hr, hlk, hK, hE⟩ := id C0
  have hx := hX.1
  have hb := hX.2.1
  have hown := hX.2.2.2.1
  have hts := hX.2.2.2.2
  intro t0 H locs ls hq hH hl
  unfold v_X4_signAt_20 at hq
  obtain ⟨hz, hq⟩ := hq
  exact w_eC hz hX hr hlk hH ⟨rfl, hq⟩ dX4_signAt_20
set_option maxRecDepth 100000 in
set_option maxHeartbeats 4000000 in
theorem s_X4_signAt_19 {k : Nat} {x1 : Int32} {I : wI} {Q : Int32 → Prop} (hs : wSh k = (0, 4)) (C0 : wCx p m c s args meth cX4_signAt 2 RX4 (some .char) D cs ad b) : ∀  (H : Heap) (locs : List Loc) (ls : Array Slot), v_X4_signAt_19 k x1 I Q  → wH D cs b G I s H locs → lv_has ls 2 [] → W p l e rm_X4_signAt s m args below meth c H locs 0 0 (MQ below (va_Qi (fun r I' => I' = I ∧ Q r) (wPo D cs b G) (fun q => b ≤ q)) args s 0 0 (fun q => b ≤ q)) (F0 m 19 ls []) := by
  obtain ⟨hX, hr, hlk, hK, hE⟩ := id C0
  have hx := hX.1
  have hb := hX.2.1
  have hown := hX.2.2.2.1
  have hts := hX.2.2.2.2
  intro  H locs ls hq hH hl
  unfold v_X4_signAt_19 at hq
  refine lv_iconst (v := 0) hx hb dX4_signAt_19 (by decide) ?_
  exact s_X4_signAt_20 hs C0  (0 : Int32) _ _ _ hq hH (lv_sub hl [] rfl)
set_option maxRecDepth 100000 in
set_option maxHeartbeats 4000000 in
theorem c_X4_signAt {l : Launch} {D : va_G} {cs : wC4} {ad : Nat → Nat} {b : Nat} {G : wG} {k : Nat} (hs : wSh k = (0, 4)) (x1 : Int32) (I : wI) (hp : pre_X4_signAt k x1 I) : Met l yX4_signAt (ws_ yX4_signAt cX4_signAt 2 (some .char)) rm_X4_signAt (va_Pc [.ref (b + k), .int x1] (wPr D cs ad b G I)) (va_Qi (fun r I' => I' = I ∧ post_X4_signAt k x1 I r) (wPo D cs b G) (fun q => b ≤ q)) 0 0 (fun q => b ≤ q) := by
  have hq := vc_X4_signAt k x1 hs I hp
  refine w_met (by decide) (Nat.le_of_ble_eq_true rfl) ?_
  intro p e s m below meth c hX hr hlk hK hE hH ls hl
  have C0 : wCx p m c s _ meth cX4_signAt 2 RX4 (some .char) D cs ad b := ⟨hX, hr, hlk, hK, hE⟩
  have hX : CallFix p m c cX4_signAt 2 s _ lw_all RX4 := hX
  have hx := hX.1
  have hb := hX.2.1
  have hown := hX.2.2.2.1
  have hts := hX.2.2.2.2
  have hl : lv_has ls 2 [(0, .ref (b + k)), (1, .int x1)] := hl
  unfold v_X4_signAt at hq
  refine lv_iload_n hx hb dX4_signAt_0 rfl (lv_at hl 1 rfl) ?_
  refine lv_if_lt (tgt := 19) hx hb dX4_signAt_1 (by decide) (fun hc => ?_) (fun hc => ?_)
  · have hq := hq.1 hc
    exact s_X4_signAt_19 hs C0   _ _ _ hq hH (lv_sub hl [] rfl)
  · have hq := hq.2 hc
    refine lv_iload_n hx hb dX4_signAt_4 rfl (lv_at hl 1 rfl) ?_
    refine lv_bipush (v := 60) hx hb dX4_signAt_5 (by decide) ?_
    refine lv_icmp_ge (tgt := 19) hx hb dX4_signAt_7 (by decide) (fun hc => ?_) (fun hc => ?_)
    · have hq := hq.1 hc
      exact s_X4_signAt_19 hs C0   _ _ _ hq hH (lv_sub hl [] rfl)
    · have hq := hq.2 hc
      refine lv_aload_n hx hb dX4_signAt_10 rfl (lv_at hl 0 rfl) ?_
      refine w_getr hX hK hH ck4 hs 0 1 (k + 1) fr4_0 rfl q1_106 dX4_signAt_11 ?_
      refine lv_iload_n hx hb dX4_signAt_14 rfl (lv_at hl 1 rfl) ?_
      obtain ⟨hc, hq⟩ := hq
      refine w_cald hX hK hH (sf4_0 hs) hc dX4_signAt_15 ?_
      refine lv_goto (tgt := 20) hx hb dX4_signAt_16 (by decide) ?_
      exact s_X4_signAt_20 hs C0  (I (k + 1) (x1).toNatClampNeg) _ _ _ hq hH (lv_sub hl [] rfl)
abbrev rm_X4_moveAt : Room := { frames := 0, cells := 0, slots := 0, locals := 0 }
theorem hd_X4_moveAt : yX4_moveAt.cls = RX4 ∧ yX4_moveAt.cls ≠ "java/lang/invoke/MethodHandle" ∧ yX4_moveAt.cls ≠ "java/lang/invoke/VarHandle" ∧ (parseMethodDescriptor yX4_moveAt.desc).map (fun d => d.parameters.length) = some 1 := by decide +kernel
set_option maxRecDepth 100000 in
set_option maxHeartbeats 4000000 in
theorem s_X4_moveAt_21 {k : Nat} {x1 : Int32} {I : wI} {Q : Int32 → Prop} (hs : wSh k = (0, 4)) (C0 : wCx p m c s args meth cX4_moveAt 2 RX4 (some .int) D cs ad b) : ∀ (t0 : Int32) (H : Heap) (locs : List Loc) (ls : Array Slot), v_X4_moveAt_21 k x1 I Q t0 → wH D cs b G I s H locs → lv_has ls 2 [] → W p l e rm_X4_moveAt s m args below meth c H locs 0 0 (MQ below (va_Qi (fun r I' => I' = I ∧ Q r) (wPo D cs b G) (fun q => b ≤ q)) args s 0 0 (fun q => b ≤ q)) (F0 m 21 ls [.int t0]) := by
  obtain ⟨hX, hr, hlk, hK, hE⟩ := id C0
  have hx := hX.1
  have hb := hX.2.1
  have hown := hX.2.2.2.1
  have hts := hX.2.2.2.2
  intro t0 H locs ls hq hH hl
  unfold v_X4_moveAt_21 at hq
  exact w_eI hX hr hlk hH ⟨rfl, hq⟩ dX4_moveAt_21
set_option maxRecDepth 100000 in
set_option maxHeartbeats 4000000 in
theorem s_X4_moveAt_20 {k : Nat} {x1 : Int32} {I : wI} {Q : Int32 → Prop} (hs : wSh k = (0, 4)) (C0 : wCx p m c s args meth cX4_moveAt 2 RX4 (some .int) D cs ad b) : ∀  (H : Heap) (locs : List Loc) (ls : Array Slot), v_X4_moveAt_20 k x1 I Q  → wH D cs b G I s H locs → lv_has ls 2 [] → W p l e rm_X4_moveAt s m args below meth c H locs 0 0 (MQ below (va_Qi (fun r I' => I' = I ∧ Q r) (wPo D cs b G) (fun q => b ≤ q)) args s 0 0 (fun q => b ≤ q)) (F0 m 20 ls []) := by
  obtain ⟨hX, hr, hlk, hK, hE⟩ := id C0
  have hx := hX.1
  have hb := hX.2.1
  have hown := hX.2.2.2.1
  have hts := hX.2.2.2.2
  intro  H locs ls hq hH hl
  unfold v_X4_moveAt_20 at hq
  refine lv_iconst (v := 0) hx hb dX4_moveAt_20 (by decide) ?_
  exact s_X4_moveAt_21 hs C0  (0 : Int32) _ _ _ hq hH (lv_sub hl [] rfl)
set_option maxRecDepth 100000 in
set_option maxHeartbeats 4000000 in
theorem c_X4_moveAt {l : Launch} {D : va_G} {cs : wC4} {ad : Nat → Nat} {b : Nat} {G : wG} {k : Nat} (hs : wSh k = (0, 4)) (x1 : Int32) (I : wI) (hp : pre_X4_moveAt k x1 I) : Met l yX4_moveAt (ws_ yX4_moveAt cX4_moveAt 2 (some .int)) rm_X4_moveAt (va_Pc [.ref (b + k), .int x1] (wPr D cs ad b G I)) (va_Qi (fun r I' => I' = I ∧ post_X4_moveAt k x1 I r) (wPo D cs b G) (fun q => b ≤ q)) 0 0 (fun q => b ≤ q) := by
  have hq := vc_X4_moveAt k x1 hs I hp
  refine w_met (by decide) (Nat.le_of_ble_eq_true rfl) ?_
  intro p e s m below meth c hX hr hlk hK hE hH ls hl
  have C0 : wCx p m c s _ meth cX4_moveAt 2 RX4 (some .int) D cs ad b := ⟨hX, hr, hlk, hK, hE⟩
  have hX : CallFix p m c cX4_moveAt 2 s _ lw_all RX4 := hX
  have hx := hX.1
  have hb := hX.2.1
  have hown := hX.2.2.2.1
  have hts := hX.2.2.2.2
  have hl : lv_has ls 2 [(0, .ref (b + k)), (1, .int x1)] := hl
  unfold v_X4_moveAt at hq
  refine lv_iload_n hx hb dX4_moveAt_0 rfl (lv_at hl 1 rfl) ?_
  refine lv_if_lt (tgt := 20) hx hb dX4_moveAt_1 (by decide) (fun hc => ?_) (fun hc => ?_)
  · have hq := hq.1 hc
    exact s_X4_moveAt_20 hs C0   _ _ _ hq hH (lv_sub hl [] rfl)
  · have hq := hq.2 hc
    refine lv_iload_n hx hb dX4_moveAt_4 rfl (lv_at hl 1 rfl) ?_
    refine lv_sipush (v := 500) hx hb dX4_moveAt_5 (by decide) ?_
    refine lv_icmp_ge (tgt := 20) hx hb dX4_moveAt_8 (by decide) (fun hc => ?_) (fun hc => ?_)
    · have hq := hq.1 hc
      exact s_X4_moveAt_20 hs C0   _ _ _ hq hH (lv_sub hl [] rfl)
    · have hq := hq.2 hc
      refine lv_aload_n hx hb dX4_moveAt_11 rfl (lv_at hl 0 rfl) ?_
      refine w_getr hX hK hH ck4 hs 2 2 (k + 2) fr4_2 rfl q1_109 dX4_moveAt_12 ?_
      refine lv_iload_n hx hb dX4_moveAt_15 rfl (lv_at hl 1 rfl) ?_
      obtain ⟨hc, hq⟩ := hq
      refine w_iald hX hK hH (sf4_2 hs) hc dX4_moveAt_16 ?_
      refine lv_goto (tgt := 21) hx hb dX4_moveAt_17 (by decide) ?_
      exact s_X4_moveAt_21 hs C0  (I (k + 2) (x1).toNatClampNeg) _ _ _ hq hH (lv_sub hl [] rfl)
abbrev rm_X4_addMove : Room := { frames := 0, cells := 0, slots := 0, locals := 0 }
theorem hd_X4_addMove : yX4_addMove.cls = RX4 ∧ yX4_addMove.cls ≠ "java/lang/invoke/MethodHandle" ∧ yX4_addMove.cls ≠ "java/lang/invoke/VarHandle" ∧ (parseMethodDescriptor yX4_addMove.desc).map (fun d => d.parameters.length) = some 1 := by decide +kernel
set_option maxRecDepth 100000 in
set_option maxHeartbeats 4000000 in
theorem s_X4_addMove_27 {k : Nat} {x1 : Int32} {Q : wI → Prop} (hs : wSh k = (0, 4)) (C0 : wCx p m c s args meth cX4_addMove 2 RX4 none D cs ad b) : ∀  (I : wI) (H : Heap) (locs : List Loc) (ls : Array Slot), v_X4_addMove_27 k x1 Q  I → wH D cs b G I s H locs → lv_has ls 2 [(0, .ref (b + k))] → W p l e rm_X4_addMove s m args below meth c H locs 0 0 (MQ below (va_Qv (Q) (wPo D cs b G) (fun q => b ≤ q)) args s 0 0 (fun q => b ≤ q)) (F0 m 27 ls []) := by
  obtain ⟨hX, hr, hlk, hK, hE⟩ := id C0
  have hx := hX.1
  have hb := hX.2.1
  have hown := hX.2.2.2.1
  have hts := hX.2.2.2.2
  intro  I H locs ls hq hH hl
  unfold v_X4_addMove_27 at hq
  refine lv_aload_n hx hb dX4_addMove_27 rfl (lv_at hl 0 rfl) ?_
  refine lv_dup hx hb dX4_addMove_28 rfl ?_
  refine w_geti hX hK hH ck4 hs 3 fi4_3 q1_110 dX4_addMove_29 ?_
  refine lv_iconst (v := 1) hx hb dX4_addMove_32 (by decide) ?_
  refine lv_iadd hx hb dX4_addMove_33 ?_
  refine w_puti hX hK hH ck4 hs 3 fw4_3 q1_110 dX4_addMove_34 (fun I1 H locs hI hH => ?_)
  have hq := hq I1 hI
  exact w_eV hX hr hlk hH hq dX4_addMove_37
set_option maxRecDepth 100000 in
set_option maxHeartbeats 4000000 in
theorem c_X4_addMove {l : Launch} {D : va_G} {cs : wC4} {ad : Nat → Nat} {b : Nat} {G : wG} {k : Nat} (hs : wSh k = (0, 4)) (x1 : Int32) (I : wI) (hp : pre_X4_addMove k x1 I) : Met l yX4_addMove (ws_ yX4_addMove cX4_addMove 2 none) rm_X4_addMove (va_Pc [.ref (b + k), .int x1] (wPr D cs ad b G I)) (va_Qv (fun I' => post_X4_addMove k x1 I I') (wPo D cs b G) (fun q => b ≤ q)) 0 0 (fun q => b ≤ q) := by
  have hq := vc_X4_addMove k x1 hs I hp
  refine w_met (by decide) (Nat.le_of_ble_eq_true rfl) ?_
  intro p e s m below meth c hX hr hlk hK hE hH ls hl
  have C0 : wCx p m c s _ meth cX4_addMove 2 RX4 none D cs ad b := ⟨hX, hr, hlk, hK, hE⟩
  have hX : CallFix p m c cX4_addMove 2 s _ lw_all RX4 := hX
  have hx := hX.1
  have hb := hX.2.1
  have hown := hX.2.2.2.1
  have hts := hX.2.2.2.2
  have hl : lv_has ls 2 [(0, .ref (b + k)), (1, .int x1)] := hl
  unfold v_X4_addMove at hq
  refine lv_aload_n hx hb dX4_addMove_0 rfl (lv_at hl 0 rfl) ?_
  refine w_geti hX hK hH ck4 hs 3 fi4_3 q1_110 dX4_addMove_1 ?_
  refine lv_if_lt (tgt := 27) hx hb dX4_addMove_4 (by decide) (fun hc => ?_) (fun hc => ?_)
  · have hq := hq.1 hc
    exact s_X4_addMove_27 hs C0   _ _ _ _ hq hH (lv_sub hl [0] rfl)
  · have hq := hq.2 hc
    refine lv_aload_n hx hb dX4_addMove_7 rfl (lv_at hl 0 rfl) ?_
    refine w_geti hX hK hH ck4 hs 3 fi4_3 q1_110 dX4_addMove_8 ?_
    refine lv_sipush (v := 500) hx hb dX4_addMove_11 (by decide) ?_
    refine lv_icmp_ge (tgt := 27) hx hb dX4_addMove_14 (by decide) (fun hc => ?_) (fun hc => ?_)
    · have hq := hq.1 hc
      exact s_X4_addMove_27 hs C0   _ _ _ _ hq hH (lv_sub hl [0] rfl)
    · have hq := hq.2 hc
      refine lv_aload_n hx hb dX4_addMove_17 rfl (lv_at hl 0 rfl) ?_
      refine w_getr hX hK hH ck4 hs 2 2 (k + 2) fr4_2 rfl q1_109 dX4_addMove_18 ?_
      refine lv_aload_n hx hb dX4_addMove_21 rfl (lv_at hl 0 rfl) ?_
      refine w_geti hX hK hH ck4 hs 3 fi4_3 q1_110 dX4_addMove_22 ?_
      refine lv_iload_n hx hb dX4_addMove_25 rfl (lv_at hl 1 rfl) ?_
      obtain ⟨hc, hq⟩ := hq
      refine w_iast hX hK hH (sf4_2 hs) hc dX4_addMove_26 (fun I1 H locs hI hH => ?_)
      have hq := hq I1 hI
      exact s_X4_addMove_27 hs C0   _ _ _ _ hq hH (lv_sub hl [0] rfl)
abbrev rm_X4_repeat : Room := { frames := 1, cells := 0, slots := 0, locals := 21 }
theorem hd_X4_repeat : yX4_repeat.cls = RX4 ∧ yX4_repeat.cls ≠ "java/lang/invoke/MethodHandle" ∧ yX4_repeat.cls ≠ "java/lang/invoke/VarHandle" ∧ (parseMethodDescriptor yX4_repeat.desc).map (fun d => d.parameters.length) = some 2 := by decide +kernel
set_option maxRecDepth 100000 in
set_option maxHeartbeats 4000000 in
theorem s_X4_repeat_53 {k : Nat} {x1 : Int32} {x2 : Int32} {Q : wI → Prop} (hs : wSh k = (0, 4)) (C0 : wCx p m c s args meth cX4_repeat 6 RX4 none D cs ad b) : ∀ (v4 : Int32) (I : wI) (H : Heap) (locs : List Loc) (ls : Array Slot), v_X4_repeat_53 k x1 x2 Q v4 I → wH D cs b G I s H locs → lv_has ls 6 [(0, .ref (b + k)), (4, .int v4)] → W p l e rm_X4_repeat s m args below meth c H locs 0 0 (MQ below (va_Qv (Q) (wPo D cs b G) (fun q => b ≤ q)) args s 0 0 (fun q => b ≤ q)) (F0 m 53 ls []) := by
  obtain ⟨hX, hr, hlk, hK, hE⟩ := id C0
  have hx := hX.1
  have hb := hX.2.1
  have hown := hX.2.2.2.1
  have hts := hX.2.2.2.2
  intro v4 I H locs ls hq hH hl
  unfold v_X4_repeat_53 at hq
  refine lv_aload_n hx hb dX4_repeat_53 rfl (lv_at hl 0 rfl) ?_
  refine lv_iload hx hb dX4_repeat_54 (lv_at hl 1 rfl) ?_
  refine w_puti hX hK hH ck4 hs 3 fw4_3 q1_110 dX4_repeat_56 (fun I1 H locs hI hH => ?_)
  have hq := hq I1 hI
  exact w_eV hX hr hlk hH hq dX4_repeat_59
set_option maxRecDepth 100000 in
set_option maxHeartbeats 4000000 in
theorem s_X4_repeat_20 {k : Nat} {x1 : Int32} {x2 : Int32} {Q : wI → Prop} (hs : wSh k = (0, 4)) (C0 : wCx p m c s args meth cX4_repeat 6 RX4 none D cs ad b) : ∀ (f : Nat) (v3 : Int32) (v4 : Int32) (v5 : Int32) (I : wI) (H : Heap) (locs : List Loc) (ls : Array Slot), v_X4_repeat_20 k x1 x2 Q f v3 v4 v5 I → wH D cs b G I s H locs → lv_has ls 6 [(0, .ref (b + k)), (3, .int v3), (4, .int v4), (5, .int v5)] → W p l e rm_X4_repeat s m args below meth c H locs 0 0 (MQ below (va_Qv (Q) (wPo D cs b G) (fun q => b ≤ q)) args s 0 0 (fun q => b ≤ q)) (F0 m 20 ls []) := by
  obtain ⟨hX, hr, hlk, hK, hE⟩ := id C0
  have hx := hX.1
  have hb := hX.2.1
  have hown := hX.2.2.2.1
  have hts := hX.2.2.2.2
  intro f
  induction f with
  | zero =>
    intro v3 v4 v5 I H locs ls hq
    exact hq.elim
  | succ f hK20 =>
    intro v3 v4 v5 I H locs ls hq hH hl
    have hq : g_X4_repeat_20 k x1 x2 Q (v_X4_repeat_20 k x1 x2 Q f) v3 v4 v5 I := hq
    unfold g_X4_repeat_20 at hq
    refine lv_iload hx hb dX4_repeat_20 (lv_at hl 3 rfl) ?_
    refine lv_iload hx hb dX4_repeat_22 (lv_at hl 2 rfl) ?_
    refine lv_icmp_ge (tgt := 53) hx hb dX4_repeat_24 (by decide) (fun hc => ?_) (fun hc => ?_)
    · have hq := hq.1 hc
      exact s_X4_repeat_53 hs C0  v4 _ _ _ _ hq hH (lv_sub hl [0, 2] rfl)
    · have hq := hq.2 hc
      refine lv_iload hx hb dX4_repeat_27 (lv_at hl 3 rfl) ?_
      refine lv_sipush (v := 500) hx hb dX4_repeat_29 (by decide) ?_
      refine lv_icmp_ge (tgt := 53) hx hb dX4_repeat_32 (by decide) (fun hc => ?_) (fun hc => ?_)
      · have hq := hq.1 hc
        exact s_X4_repeat_53 hs C0  v4 _ _ _ _ hq hH (lv_sub hl [0, 2] rfl)
      · have hq := hq.2 hc
        refine lv_aload_n hx hb dX4_repeat_35 rfl (lv_at hl 0 rfl) ?_
        refine lv_aload_n hx hb dX4_repeat_36 rfl (lv_at hl 0 rfl) ?_
        refine lv_iload hx hb dX4_repeat_37 (lv_at hl 3 rfl) ?_
        refine lv_iload_n hx hb dX4_repeat_39 rfl (lv_at hl 1 rfl) ?_
        refine lv_isub hx hb dX4_repeat_40 ?_
        obtain ⟨hp, hq⟩ := hq
        refine w_cIp hH (w_rV (As := [.int (v5 - v3)]) (rest := [.ref (b + k)]) hX hK hE hH (c_X4_moveAt hs _ _ hp) ck4 hs q2_45 q2_46 q2_47 q1_5 q2_48 hd_X4_moveAt ⟨Nat.le_of_ble_eq_true rfl, Nat.le_of_ble_eq_true rfl⟩ ⟨rfl, rfl⟩ rfl hl.1 rfl (Nat.le_of_ble_eq_true rfl) dX4_repeat_41 ⟨Nat.zero_le _, Nat.zero_le _⟩) (fun r1  H locs hpo hH => ?_)
        have hq := hq r1  hpo
        obtain ⟨hp, hq⟩ := hq
        refine w_cV hH (w_rV (As := [.int r1]) (rest := []) hX hK hE hH (c_X4_addMove hs _ _ hp) ck4 hs q2_49 q2_51 qs6 q1_5 q2_52 hd_X4_addMove ⟨Nat.le_of_ble_eq_true rfl, Nat.le_of_ble_eq_true rfl⟩ ⟨rfl, rfl⟩ rfl hl.1 rfl (Nat.le_of_ble_eq_true rfl) dX4_repeat_44 ⟨Nat.zero_le _, Nat.zero_le _⟩) (fun  I2 H locs hpo hH => ?_)
        have hq := hq  I2 hpo
        refine lv_iinc (v := (v5 + (1 : Int32))) (lv' := [(5, .int (v5 + (1 : Int32))), (0, .ref (b + k)), (3, .int v3), (4, .int v4)]) hx hb dX4_repeat_47 hl (k := 3) rfl rfl (by decide) rfl (fun ls hl => ?_)
        refine lv_goto (tgt := 20) hx hb dX4_repeat_50 (by decide) ?_
        exact hK20 v3 v4 (v5 + (1 : Int32)) _ _ _ _ hq hH (lv_sub hl [1, 2, 3, 0] rfl)
set_option maxRecDepth 100000 in
set_option maxHeartbeats 4000000 in
theorem c_X4_repeat {l : Launch} {D : va_G} {cs : wC4} {ad : Nat → Nat} {b : Nat} {G : wG} {k : Nat} (hs : wSh k = (0, 4)) (x1 : Int32) (x2 : Int32) (I : wI) (hp : pre_X4_repeat k x1 x2 I) : Met l yX4_repeat (ws_ yX4_repeat cX4_repeat 6 none) rm_X4_repeat (va_Pc [.ref (b + k), .int x1, .int x2] (wPr D cs ad b G I)) (va_Qv (fun I' => post_X4_repeat k x1 x2 I I') (wPo D cs b G) (fun q => b ≤ q)) 0 0 (fun q => b ≤ q) := by
  have hq := vc_X4_repeat k x1 x2 hs I hp
  refine w_met (by decide) (Nat.le_of_ble_eq_true rfl) ?_
  intro p e s m below meth c hX hr hlk hK hE hH ls hl
  have C0 : wCx p m c s _ meth cX4_repeat 6 RX4 none D cs ad b := ⟨hX, hr, hlk, hK, hE⟩
  have hX : CallFix p m c cX4_repeat 6 s _ lw_all RX4 := hX
  have hx := hX.1
  have hb := hX.2.1
  have hown := hX.2.2.2.1
  have hts := hX.2.2.2.2
  have hl : lv_has ls 6 [(0, .ref (b + k)), (1, .int x1), (2, .int x2)] := hl
  unfold v_X4_repeat at hq
  refine lv_aload_n hx hb dX4_repeat_0 rfl (lv_at hl 0 rfl) ?_
  refine w_geti hX hK hH ck4 hs 3 fi4_3 q1_110 dX4_repeat_1 ?_
  refine lv_iload_n hx hb dX4_repeat_4 rfl (lv_at hl 1 rfl) ?_
  refine lv_isub hx hb dX4_repeat_5 ?_
  refine lv_istore_n (lv' := [(3, .int ((I k 3) - x1)), (0, .ref (b + k)), (1, .int x1), (2, .int x2)]) hx hb dX4_repeat_6 rfl hl (by decide) rfl (fun ls hl => ?_)
  refine lv_iload_n hx hb dX4_repeat_7 rfl (lv_at hl 2 rfl) ?_
  refine lv_iload_n hx hb dX4_repeat_8 rfl (lv_at hl 0 rfl) ?_
  refine lv_iload_n hx hb dX4_repeat_9 rfl (lv_at hl 3 rfl) ?_
  refine lv_imul hx hb dX4_repeat_10 ?_
  refine lv_iadd hx hb dX4_repeat_11 ?_
  refine lv_istore (lv' := [(4, .int (x1 + (((I k 3) - x1) * x2))), (3, .int ((I k 3) - x1)), (0, .ref (b + k)), (1, .int x1), (2, .int x2)]) hx hb dX4_repeat_12 hl (by decide) rfl (fun ls hl => ?_)
  refine lv_aload_n hx hb dX4_repeat_14 rfl (lv_at hl 2 rfl) ?_
  refine w_geti hX hK hH ck4 hs 3 fi4_3 q1_110 dX4_repeat_15 ?_
  refine lv_istore (lv' := [(5, .int (I k 3)), (4, .int (x1 + (((I k 3) - x1) * x2))), (3, .int ((I k 3) - x1)), (0, .ref (b + k)), (1, .int x1), (2, .int x2)]) hx hb dX4_repeat_18 hl (by decide) rfl (fun ls hl => ?_)
  obtain ⟨f, hq⟩ := hq
  exact s_X4_repeat_20 hs C0  f ((I k 3) - x1) (x1 + (((I k 3) - x1) * x2)) (I k 3) _ _ _ _ hq hH (lv_sub hl [3, 2, 1, 0] rfl)
abbrev rm_X4_takesFigure : Room := { frames := 2, cells := 0, slots := 0, locals := 46 }
theorem hd_X4_takesFigure : yX4_takesFigure.cls = RX4 ∧ yX4_takesFigure.cls ≠ "java/lang/invoke/MethodHandle" ∧ yX4_takesFigure.cls ≠ "java/lang/invoke/VarHandle" ∧ (parseMethodDescriptor yX4_takesFigure.desc).map (fun d => d.parameters.length) = some 1 := by decide +kernel
set_option maxRecDepth 100000 in
set_option maxHeartbeats 4000000 in
theorem s_X4_takesFigure_28 {k : Nat} {x1 : Int32} {Q : Int32 → wI → Prop} (hs : wSh k = (0, 4)) (C0 : wCx p m c s args meth cX4_takesFigure 3 RX4 (some .boolean) D cs ad b) : ∀  (I : wI) (H : Heap) (locs : List Loc) (ls : Array Slot), v_X4_takesFigure_28 k x1 Q  I → wH D cs b G I s H locs → lv_has ls 3 [] → W p l e rm_X4_takesFigure s m args below meth c H locs 0 0 (MQ below (va_Qi (Q) (wPo D cs b G) (fun q => b ≤ q)) args s 0 0 (fun q => b ≤ q)) (F0 m 28 ls []) := by
  obtain ⟨hX, hr, hlk, hK, hE⟩ := id C0
  have hx := hX.1
  have hb := hX.2.1
  have hown := hX.2.2.2.1
  have hts := hX.2.2.2.2
  intro  I H locs ls hq hH hl
  unfold v_X4_takesFigure_28 at hq
  refine lv_iconst (v := 0) hx hb dX4_takesFigure_28 (by decide) ?_
  exact w_eZ (by decide) hX hr hlk hH hq dX4_takesFigure_29
set_option maxRecDepth 100000 in
set_option maxHeartbeats 4000000 in
theorem c_X4_takesFigure {l : Launch} {D : va_G} {cs : wC4} {ad : Nat → Nat} {b : Nat} {G : wG} {k : Nat} (hs : wSh k = (0, 4)) (x1 : Int32) (I : wI) (hp : pre_X4_takesFigure k x1 I) : Met l yX4_takesFigure (ws_ yX4_takesFigure cX4_takesFigure 3 (some .boolean)) rm_X4_takesFigure (va_Pc [.ref (b + k), .int x1] (wPr D cs ad b G I)) (va_Qi (fun r I' => post_X4_takesFigure k x1 I r I') (wPo D cs b G) (fun q => b ≤ q)) 0 0 (fun q => b ≤ q) := by
  have hq := vc_X4_takesFigure k x1 hs I hp
  refine w_met (by decide) (Nat.le_of_ble_eq_true rfl) ?_
  intro p e s m below meth c hX hr hlk hK hE hH ls hl
  have C0 : wCx p m c s _ meth cX4_takesFigure 3 RX4 (some .boolean) D cs ad b := ⟨hX, hr, hlk, hK, hE⟩
  have hX : CallFix p m c cX4_takesFigure 3 s _ lw_all RX4 := hX
  have hx := hX.1
  have hb := hX.2.1
  have hown := hX.2.2.2.1
  have hts := hX.2.2.2.2
  have hl : lv_has ls 3 [(0, .ref (b + k)), (1, .int x1)] := hl
  unfold v_X4_takesFigure at hq
  refine lv_aload_n hx hb dX4_takesFigure_0 rfl (lv_at hl 0 rfl) ?_
  refine w_geti hX hK hH ck4 hs 8 fi4_8 q1_117 dX4_takesFigure_1 ?_
  refine lv_iconst (v := 1) hx hb dX4_takesFigure_4 (by decide) ?_
  refine lv_isub hx hb dX4_takesFigure_5 ?_
  refine lv_istore_n (lv' := [(2, .int ((I k 8) - (1 : Int32))), (0, .ref (b + k)), (1, .int x1)]) hx hb dX4_takesFigure_6 rfl hl (by decide) rfl (fun ls hl => ?_)
  refine lv_iload_n hx hb dX4_takesFigure_7 rfl (lv_at hl 2 rfl) ?_
  refine lv_bipush (v := 50) hx hb dX4_takesFigure_8 (by decide) ?_
  refine lv_icmp_lt (tgt := 28) hx hb dX4_takesFigure_10 (by decide) (fun hc => ?_) (fun hc => ?_)
  · have hq := hq.1 hc
    exact s_X4_takesFigure_28 hs C0   _ _ _ _ hq hH (lv_sub hl [] rfl)
  · have hq := hq.2 hc
    refine lv_iload_n hx hb dX4_takesFigure_13 rfl (lv_at hl 2 rfl) ?_
    refine lv_bipush (v := 57) hx hb dX4_takesFigure_14 (by decide) ?_
    refine lv_icmp_gt (tgt := 28) hx hb dX4_takesFigure_16 (by decide) (fun hc => ?_) (fun hc => ?_)
    · have hq := hq.1 hc
      exact s_X4_takesFigure_28 hs C0   _ _ _ _ hq hH (lv_sub hl [] rfl)
    · have hq := hq.2 hc
      refine lv_iload_n hx hb dX4_takesFigure_19 rfl (lv_at hl 0 rfl) ?_
      refine lv_if_lt (tgt := 28) hx hb dX4_takesFigure_20 (by decide) (fun hc => ?_) (fun hc => ?_)
      · have hq := hq.1 hc
        exact s_X4_takesFigure_28 hs C0   _ _ _ _ hq hH (lv_sub hl [] rfl)
      · have hq := hq.2 hc
        refine lv_iload_n hx hb dX4_takesFigure_23 rfl (lv_at hl 0 rfl) ?_
        refine lv_iconst (v := 4) hx hb dX4_takesFigure_24 (by decide) ?_
        refine lv_icmp_lt (tgt := 30) hx hb dX4_takesFigure_25 (by decide) (fun hc => ?_) (fun hc => ?_)
        · have hq := hq.1 hc
          refine lv_aload_n hx hb dX4_takesFigure_30 rfl (lv_at hl 1 rfl) ?_
          refine lv_iconst (v := 0) hx hb dX4_takesFigure_31 (by decide) ?_
          refine w_putz (by decide) hX hK hH ck4 hs 10 fw4_10 q1_119 dX4_takesFigure_32 (fun I1 H locs hI hH => ?_)
          have hq := hq I1 hI
          refine lv_aload_n hx hb dX4_takesFigure_35 rfl (lv_at hl 1 rfl) ?_
          refine lv_iload_n hx hb dX4_takesFigure_36 rfl (lv_at hl 0 rfl) ?_
          refine w_puti hX hK hH ck4 hs 8 fw4_8 q1_117 dX4_takesFigure_37 (fun I2 H locs hI hH => ?_)
          have hq := hq I2 hI
          refine lv_aload_n hx hb dX4_takesFigure_40 rfl (lv_at hl 1 rfl) ?_
          refine lv_aload_n hx hb dX4_takesFigure_41 rfl (lv_at hl 1 rfl) ?_
          refine w_getr hX hK hH ck4 hs 6 4 (k + 4) fr4_6 rfl q1_115 dX4_takesFigure_42 ?_
          refine lv_iload_n hx hb dX4_takesFigure_45 rfl (lv_at hl 0 rfl) ?_
          obtain ⟨hc, hq⟩ := hq
          refine w_iald hX hK hH (sf4_6 hs) hc dX4_takesFigure_46 ?_
          refine lv_iload_n hx hb dX4_takesFigure_47 rfl (lv_at hl 2 rfl) ?_
          refine lv_bipush (v := 48) hx hb dX4_takesFigure_48 (by decide) ?_
          refine lv_isub hx hb dX4_takesFigure_50 ?_
          obtain ⟨hp, hq⟩ := hq
          refine w_cV hH (w_rV (As := [.int (I2 (k + 4) (((I k 8) - (1 : Int32))).toNatClampNeg), .int (x1 - (48 : Int32))]) (rest := []) hX hK hE hH (c_X4_repeat hs _ _ _ hp) ck4 hs q2_41 q2_43 qs5 q1_5 q2_44 hd_X4_repeat ⟨Nat.le_of_ble_eq_true rfl, Nat.le_of_ble_eq_true rfl⟩ ⟨rfl, rfl⟩ rfl hl.1 rfl (Nat.le_of_ble_eq_true rfl) dX4_takesFigure_51 ⟨Nat.zero_le _, Nat.zero_le _⟩) (fun  I3 H locs hpo hH => ?_)
          have hq := hq  I3 hpo
          refine lv_iconst (v := 1) hx hb dX4_takesFigure_54 (by decide) ?_
          exact w_eZ (by decide) hX hr hlk hH hq dX4_takesFigure_55
        · have hq := hq.2 hc
          exact s_X4_takesFigure_28 hs C0   _ _ _ _ hq hH (lv_sub hl [] rfl)
abbrev rm_X4_takesMove : Room := { frames := 1, cells := 0, slots := 0, locals := 21 }
theorem hd_X4_takesMove : yX4_takesMove.cls = RX4 ∧ yX4_takesMove.cls ≠ "java/lang/invoke/MethodHandle" ∧ yX4_takesMove.cls ≠ "java/lang/invoke/VarHandle" ∧ (parseMethodDescriptor yX4_takesMove.desc).map (fun d => d.parameters.length) = some 1 := by decide +kernel
set_option maxRecDepth 100000 in
set_option maxHeartbeats 4000000 in
theorem c_X4_takesMove {l : Launch} {D : va_G} {cs : wC4} {ad : Nat → Nat} {b : Nat} {G : wG} {k : Nat} (hs : wSh k = (0, 4)) (x1 : Int32) (I : wI) (hp : pre_X4_takesMove k x1 I) : Met l yX4_takesMove (ws_ yX4_takesMove cX4_takesMove 2 (some .boolean)) rm_X4_takesMove (va_Pc [.ref (b + k), .int x1] (wPr D cs ad b G I)) (va_Qi (fun r I' => post_X4_takesMove k x1 I r I') (wPo D cs b G) (fun q => b ≤ q)) 0 0 (fun q => b ≤ q) := by
  have hq := vc_X4_takesMove k x1 hs I hp
  refine w_met (by decide) (Nat.le_of_ble_eq_true rfl) ?_
  intro p e s m below meth c hX hr hlk hK hE hH ls hl
  have C0 : wCx p m c s _ meth cX4_takesMove 2 RX4 (some .boolean) D cs ad b := ⟨hX, hr, hlk, hK, hE⟩
  have hX : CallFix p m c cX4_takesMove 2 s _ lw_all RX4 := hX
  have hx := hX.1
  have hb := hX.2.1
  have hown := hX.2.2.2.1
  have hts := hX.2.2.2.2
  have hl : lv_has ls 2 [(0, .ref (b + k)), (1, .int x1)] := hl
  unfold v_X4_takesMove at hq
  refine lv_aload_n hx hb dX4_takesMove_0 rfl (lv_at hl 0 rfl) ?_
  refine lv_iload_n hx hb dX4_takesMove_1 rfl (lv_at hl 1 rfl) ?_
  obtain ⟨hp, hq⟩ := hq
  refine w_cV hH (w_rV (As := [.int x1]) (rest := []) hX hK hE hH (c_X4_addMove hs _ _ hp) ck4 hs q2_49 q2_51 qs6 q1_5 q2_52 hd_X4_addMove ⟨Nat.le_of_ble_eq_true rfl, Nat.le_of_ble_eq_true rfl⟩ ⟨rfl, rfl⟩ rfl hl.1 rfl (Nat.le_of_ble_eq_true rfl) dX4_takesMove_2 ⟨Nat.zero_le _, Nat.zero_le _⟩) (fun  I1 H locs hpo hH => ?_)
  have hq := hq  I1 hpo
  refine lv_aload_n hx hb dX4_takesMove_5 rfl (lv_at hl 0 rfl) ?_
  refine lv_iconst (v := 1) hx hb dX4_takesMove_6 (by decide) ?_
  refine w_putz (by decide) hX hK hH ck4 hs 9 fw4_9 q1_118 dX4_takesMove_7 (fun I2 H locs hI hH => ?_)
  have hq := hq I2 hI
  refine lv_iconst (v := 1) hx hb dX4_takesMove_10 (by decide) ?_
  exact w_eZ (by decide) hX hr hlk hH hq dX4_takesMove_11
abbrev rm_X4_takesOpening : Room := { frames := 0, cells := 0, slots := 0, locals := 0 }
theorem hd_X4_takesOpening : yX4_takesOpening.cls = RX4 ∧ yX4_takesOpening.cls ≠ "java/lang/invoke/MethodHandle" ∧ yX4_takesOpening.cls ≠ "java/lang/invoke/VarHandle" ∧ (parseMethodDescriptor yX4_takesOpening.desc).map (fun d => d.parameters.length) = some 1 := by decide +kernel
set_option maxRecDepth 100000 in
set_option maxHeartbeats 4000000 in
theorem s_X4_takesOpening_15 {k : Nat} {x1 : Int32} {Q : Int32 → wI → Prop} (hs : wSh k = (0, 4)) (C0 : wCx p m c s args meth cX4_takesOpening 2 RX4 (some .boolean) D cs ad b) : ∀  (I : wI) (H : Heap) (locs : List Loc) (ls : Array Slot), v_X4_takesOpening_15 k x1 Q  I → wH D cs b G I s H locs → lv_has ls 2 [] → W p l e rm_X4_takesOpening s m args below meth c H locs 0 0 (MQ below (va_Qi (Q) (wPo D cs b G) (fun q => b ≤ q)) args s 0 0 (fun q => b ≤ q)) (F0 m 15 ls []) := by
  obtain ⟨hX, hr, hlk, hK, hE⟩ := id C0
  have hx := hX.1
  have hb := hX.2.1
  have hown := hX.2.2.2.1
  have hts := hX.2.2.2.2
  intro  I H locs ls hq hH hl
  unfold v_X4_takesOpening_15 at hq
  refine lv_iconst (v := 0) hx hb dX4_takesOpening_15 (by decide) ?_
  exact w_eZ (by decide) hX hr hlk hH hq dX4_takesOpening_16
set_option maxRecDepth 100000 in
set_option maxHeartbeats 4000000 in
theorem c_X4_takesOpening {l : Launch} {D : va_G} {cs : wC4} {ad : Nat → Nat} {b : Nat} {G : wG} {k : Nat} (hs : wSh k = (0, 4)) (x1 : Int32) (I : wI) (hp : pre_X4_takesOpening k x1 I) : Met l yX4_takesOpening (ws_ yX4_takesOpening cX4_takesOpening 2 (some .boolean)) rm_X4_takesOpening (va_Pc [.ref (b + k), .int x1] (wPr D cs ad b G I)) (va_Qi (fun r I' => post_X4_takesOpening k x1 I r I') (wPo D cs b G) (fun q => b ≤ q)) 0 0 (fun q => b ≤ q) := by
  have hq := vc_X4_takesOpening k x1 hs I hp
  refine w_met (by decide) (Nat.le_of_ble_eq_true rfl) ?_
  intro p e s m below meth c hX hr hlk hK hE hH ls hl
  have C0 : wCx p m c s _ meth cX4_takesOpening 2 RX4 (some .boolean) D cs ad b := ⟨hX, hr, hlk, hK, hE⟩
  have hX : CallFix p m c cX4_takesOpening 2 s _ lw_all RX4 := hX
  have hx := hX.1
  have hb := hX.2.1
  have hown := hX.2.2.2.1
  have hts := hX.2.2.2.2
  have hl : lv_has ls 2 [(0, .ref (b + k)), (1, .int x1)] := hl
  unfold v_X4_takesOpening at hq
  refine lv_aload_n hx hb dX4_takesOpening_0 rfl (lv_at hl 0 rfl) ?_
  refine w_geti hX hK hH ck4 hs 8 fi4_8 q1_117 dX4_takesOpening_1 ?_
  refine lv_if_lt (tgt := 15) hx hb dX4_takesOpening_4 (by decide) (fun hc => ?_) (fun hc => ?_)
  · have hq := hq.1 hc
    exact s_X4_takesOpening_15 hs C0   _ _ _ _ hq hH (lv_sub hl [] rfl)
  · have hq := hq.2 hc
    refine lv_aload_n hx hb dX4_takesOpening_7 rfl (lv_at hl 0 rfl) ?_
    refine w_geti hX hK hH ck4 hs 8 fi4_8 q1_117 dX4_takesOpening_8 ?_
    refine lv_iconst (v := 4) hx hb dX4_takesOpening_11 (by decide) ?_
    refine lv_icmp_lt (tgt := 17) hx hb dX4_takesOpening_12 (by decide) (fun hc => ?_) (fun hc => ?_)
    · have hq := hq.1 hc
      refine lv_aload_n hx hb dX4_takesOpening_17 rfl (lv_at hl 0 rfl) ?_
      refine w_getr hX hK hH ck4 hs 5 3 (k + 3) fr4_5 rfl q1_114 dX4_takesOpening_18 ?_
      refine lv_aload_n hx hb dX4_takesOpening_21 rfl (lv_at hl 0 rfl) ?_
      refine w_geti hX hK hH ck4 hs 8 fi4_8 q1_117 dX4_takesOpening_22 ?_
      refine lv_iload_n hx hb dX4_takesOpening_25 rfl (lv_at hl 1 rfl) ?_
      obtain ⟨hc, hq⟩ := hq
      refine w_iast hX hK hH (sf4_5 hs) hc dX4_takesOpening_26 (fun I1 H locs hI hH => ?_)
      have hq := hq I1 hI
      refine lv_aload_n hx hb dX4_takesOpening_27 rfl (lv_at hl 0 rfl) ?_
      refine w_getr hX hK hH ck4 hs 6 4 (k + 4) fr4_6 rfl q1_115 dX4_takesOpening_28 ?_
      refine lv_aload_n hx hb dX4_takesOpening_31 rfl (lv_at hl 0 rfl) ?_
      refine w_geti hX hK hH ck4 hs 8 fi4_8 q1_117 dX4_takesOpening_32 ?_
      refine lv_aload_n hx hb dX4_takesOpening_35 rfl (lv_at hl 0 rfl) ?_
      refine w_geti hX hK hH ck4 hs 3 fi4_3 q1_110 dX4_takesOpening_36 ?_
      obtain ⟨hc, hq⟩ := hq
      refine w_iast hX hK hH (sf4_6 hs) hc dX4_takesOpening_39 (fun I2 H locs hI hH => ?_)
      have hq := hq I2 hI
      refine lv_aload_n hx hb dX4_takesOpening_40 rfl (lv_at hl 0 rfl) ?_
      refine w_getr hX hK hH ck4 hs 7 5 (k + 5) fr4_7 rfl q1_116 dX4_takesOpening_41 ?_
      refine lv_aload_n hx hb dX4_takesOpening_44 rfl (lv_at hl 0 rfl) ?_
      refine w_geti hX hK hH ck4 hs 8 fi4_8 q1_117 dX4_takesOpening_45 ?_
      refine lv_aload_n hx hb dX4_takesOpening_48 rfl (lv_at hl 0 rfl) ?_
      refine w_geti hX hK hH ck4 hs 3 fi4_3 q1_110 dX4_takesOpening_49 ?_
      obtain ⟨hc, hq⟩ := hq
      refine w_iast hX hK hH (sf4_7 hs) hc dX4_takesOpening_52 (fun I3 H locs hI hH => ?_)
      have hq := hq I3 hI
      refine lv_aload_n hx hb dX4_takesOpening_53 rfl (lv_at hl 0 rfl) ?_
      refine lv_dup hx hb dX4_takesOpening_54 rfl ?_
      refine w_geti hX hK hH ck4 hs 8 fi4_8 q1_117 dX4_takesOpening_55 ?_
      refine lv_iconst (v := 1) hx hb dX4_takesOpening_58 (by decide) ?_
      refine lv_iadd hx hb dX4_takesOpening_59 ?_
      refine w_puti hX hK hH ck4 hs 8 fw4_8 q1_117 dX4_takesOpening_60 (fun I4 H locs hI hH => ?_)
      have hq := hq I4 hI
      refine lv_aload_n hx hb dX4_takesOpening_63 rfl (lv_at hl 0 rfl) ?_
      refine lv_iconst (v := 0) hx hb dX4_takesOpening_64 (by decide) ?_
      refine w_putz (by decide) hX hK hH ck4 hs 9 fw4_9 q1_118 dX4_takesOpening_65 (fun I5 H locs hI hH => ?_)
      have hq := hq I5 hI
      refine lv_iconst (v := 1) hx hb dX4_takesOpening_68 (by decide) ?_
      exact w_eZ (by decide) hX hr hlk hH hq dX4_takesOpening_69
    · have hq := hq.2 hc
      exact s_X4_takesOpening_15 hs C0   _ _ _ _ hq hH (lv_sub hl [] rfl)
abbrev rm_X5_opposite : Room := { frames := 1, cells := 0, slots := 0, locals := 21 }
theorem hd_X5_opposite : yX5_opposite.cls = RX5 ∧ yX5_opposite.cls ≠ "java/lang/invoke/MethodHandle" ∧ yX5_opposite.cls ≠ "java/lang/invoke/VarHandle" ∧ (parseMethodDescriptor yX5_opposite.desc).map (fun d => d.parameters.length) = some 1 := by decide +kernel
set_option maxRecDepth 100000 in
set_option maxHeartbeats 4000000 in
theorem s_X5_opposite_16 {x0 : Int32} {I : wI} {Q : Int32 → Prop} (C0 : wCx p m c s args meth cX5_opposite 1 RX5 (some .int) D cs ad b) : ∀ (t0 : Int32) (t1 : Int32) (H : Heap) (locs : List Loc) (ls : Array Slot), v_X5_opposite_16 x0 I Q t0 t1 → wH D cs b G I s H locs → lv_has ls 1 [] → W p l e rm_X5_opposite s m args below meth c H locs 0 0 (MQ below (va_Qi (fun r I' => I' = I ∧ Q r) (wPo D cs b G) (fun q => b ≤ q)) args s 0 0 (fun q => b ≤ q)) (F0 m 16 ls [.int t0, .int t1]) := by
  obtain ⟨hX, hr, hlk, hK, hE⟩ := id C0
  have hx := hX.1
  have hb := hX.2.1
  have hown := hX.2.2.2.1
  have hts := hX.2.2.2.2
  intro t0 t1 H locs ls hq hH hl
  unfold v_X5_opposite_16 at hq
  obtain ⟨hp, hq⟩ := hq
  refine w_cIp hH (w_rS (As := [.int t1, .int t0]) (rest := []) hX hK hE hH (c_X5_moveOf  _ _ _ hp) q2_81 q2_54 q1_1 q2_55 hd_X5_moveOf.2 ⟨Nat.le_of_ble_eq_true rfl, Nat.le_of_ble_eq_true rfl⟩ ⟨rfl, rfl⟩ rfl hl.1 rfl (Nat.le_of_ble_eq_true rfl) dX5_opposite_16 ⟨Nat.zero_le _, Nat.zero_le _⟩) (fun r1  H locs hpo hH => ?_)
  have hq := hq r1  hpo
  exact w_eI hX hr hlk hH ⟨rfl, hq⟩ dX5_opposite_19
set_option maxRecDepth 100000 in
set_option maxHeartbeats 4000000 in
theorem c_X5_opposite {l : Launch} {D : va_G} {cs : wC4} {ad : Nat → Nat} {b : Nat} {G : wG} (x0 : Int32) (I : wI) (hp : pre_X5_opposite x0 I) : Met l yX5_opposite (ws_ yX5_opposite cX5_opposite 1 (some .int)) rm_X5_opposite (va_Pc [.int x0] (wPr D cs ad b G I)) (va_Qi (fun r I' => I' = I ∧ post_X5_opposite x0 I r) (wPo D cs b G) (fun q => b ≤ q)) 0 0 (fun q => b ≤ q) := by
  have hq := vc_X5_opposite x0 I hp
  refine w_met (by decide) (Nat.le_of_ble_eq_true rfl) ?_
  intro p e s m below meth c hX hr hlk hK hE hH ls hl
  have C0 : wCx p m c s _ meth cX5_opposite 1 RX5 (some .int) D cs ad b := ⟨hX, hr, hlk, hK, hE⟩
  have hX : CallFix p m c cX5_opposite 1 s _ lw_all RX5 := hX
  have hx := hX.1
  have hb := hX.2.1
  have hown := hX.2.2.2.1
  have hts := hX.2.2.2.2
  have hl : lv_has ls 1 [(0, .int x0)] := hl
  unfold v_X5_opposite at hq
  refine lv_iload_n hx hb dX5_opposite_0 rfl (lv_at hl 0 rfl) ?_
  obtain ⟨hp, hq⟩ := hq
  refine w_cIp hH (w_rS (As := [.int x0]) (rest := []) hX hK hE hH (c_X5_keyOf  _ _ hp) q2_75 q2_76 q1_1 q2_77 hd_X5_keyOf.2 ⟨Nat.le_of_ble_eq_true rfl, Nat.le_of_ble_eq_true rfl⟩ ⟨rfl, rfl⟩ rfl hl.1 rfl (Nat.le_of_ble_eq_true rfl) dX5_opposite_1 ⟨Nat.zero_le _, Nat.zero_le _⟩) (fun r1  H locs hpo hH => ?_)
  have hq := hq r1  hpo
  refine lv_iload_n hx hb dX5_opposite_4 rfl (lv_at hl 0 rfl) ?_
  obtain ⟨hp, hq⟩ := hq
  refine w_cIp hH (w_rS (As := [.int x0]) (rest := [.int r1]) hX hK hE hH (c_X5_isBack  _ _ hp) q2_78 q2_79 q1_1 q2_80 hd_X5_isBack.2 ⟨Nat.le_of_ble_eq_true rfl, Nat.le_of_ble_eq_true rfl⟩ ⟨rfl, rfl⟩ rfl hl.1 rfl (Nat.le_of_ble_eq_true rfl) dX5_opposite_5 ⟨Nat.zero_le _, Nat.zero_le _⟩) (fun r2  H locs hpo hH => ?_)
  have hq := hq r2  hpo
  refine lv_if_ne (tgt := 15) hx hb dX5_opposite_8 (by decide) (fun hc => ?_) (fun hc => ?_)
  · have hq := hq.1 hc
    refine lv_iconst (v := 0) hx hb dX5_opposite_15 (by decide) ?_
    exact s_X5_opposite_16  C0  (0 : Int32) r1 _ _ _ hq hH (lv_sub hl [] rfl)
  · have hq := hq.2 hc
    refine lv_iconst (v := 1) hx hb dX5_opposite_11 (by decide) ?_
    refine lv_goto (tgt := 16) hx hb dX5_opposite_12 (by decide) ?_
    exact s_X5_opposite_16  C0  (1 : Int32) r1 _ _ _ hq hH (lv_sub hl [] rfl)
abbrev rm_X4_addOpposite : Room := { frames := 2, cells := 0, slots := 0, locals := 41 }
theorem hd_X4_addOpposite : yX4_addOpposite.cls = RX4 ∧ yX4_addOpposite.cls ≠ "java/lang/invoke/MethodHandle" ∧ yX4_addOpposite.cls ≠ "java/lang/invoke/VarHandle" ∧ (parseMethodDescriptor yX4_addOpposite.desc).map (fun d => d.parameters.length) = some 3 := by decide +kernel
set_option maxRecDepth 100000 in
set_option maxHeartbeats 4000000 in
theorem s_X4_addOpposite_87 {k : Nat} {x1 : Int32} {x2 : Int32} {x3 : Int32} {Q : wI → Prop} (hs : wSh k = (0, 4)) (C0 : wCx p m c s args meth cX4_addOpposite 6 RX4 none D cs ad b) : ∀ (v4 : Int32) (I : wI) (H : Heap) (locs : List Loc) (ls : Array Slot), v_X4_addOpposite_87 k x1 x2 x3 Q v4 I → wH D cs b G I s H locs → lv_has ls 6 [(0, .ref (b + k)), (4, .int v4)] → W p l e rm_X4_addOpposite s m args below meth c H locs 0 0 (MQ below (va_Qv (Q) (wPo D cs b G) (fun q => b ≤ q)) args s 0 0 (fun q => b ≤ q)) (F0 m 87 ls []) := by
  obtain ⟨hX, hr, hlk, hK, hE⟩ := id C0
  have hx := hX.1
  have hb := hX.2.1
  have hown := hX.2.2.2.1
  have hts := hX.2.2.2.2
  intro v4 I H locs ls hq hH hl
  unfold v_X4_addOpposite_87 at hq
  refine lv_aload_n hx hb dX4_addOpposite_87 rfl (lv_at hl 0 rfl) ?_
  refine lv_iload hx hb dX4_addOpposite_88 (lv_at hl 1 rfl) ?_
  refine w_puti hX hK hH ck4 hs 3 fw4_3 q1_110 dX4_addOpposite_90 (fun I1 H locs hI hH => ?_)
  have hq := hq I1 hI
  exact w_eV hX hr hlk hH hq dX4_addOpposite_93
set_option maxRecDepth 100000 in
set_option maxHeartbeats 4000000 in
theorem s_X4_addOpposite_52 {k : Nat} {x1 : Int32} {x2 : Int32} {x3 : Int32} {Q : wI → Prop} (hs : wSh k = (0, 4)) (C0 : wCx p m c s args meth cX4_addOpposite 6 RX4 none D cs ad b) : ∀ (f : Nat) (v4 : Int32) (v5 : Int32) (I : wI) (H : Heap) (locs : List Loc) (ls : Array Slot), v_X4_addOpposite_52 k x1 x2 x3 Q f v4 v5 I → wH D cs b G I s H locs → lv_has ls 6 [(0, .ref (b + k)), (2, .int x2), (4, .int v4), (5, .int v5)] → W p l e rm_X4_addOpposite s m args below meth c H locs 0 0 (MQ below (va_Qv (Q) (wPo D cs b G) (fun q => b ≤ q)) args s 0 0 (fun q => b ≤ q)) (F0 m 52 ls []) := by
  obtain ⟨hX, hr, hlk, hK, hE⟩ := id C0
  have hx := hX.1
  have hb := hX.2.1
  have hown := hX.2.2.2.1
  have hts := hX.2.2.2.2
  intro f
  induction f with
  | zero =>
    intro v4 v5 I H locs ls hq
    exact hq.elim
  | succ f hK52 =>
    intro v4 v5 I H locs ls hq hH hl
    have hq : g_X4_addOpposite_52 k x1 x2 x3 Q (v_X4_addOpposite_52 k x1 x2 x3 Q f) v4 v5 I := hq
    unfold g_X4_addOpposite_52 at hq
    refine lv_iload hx hb dX4_addOpposite_52 (lv_at hl 3 rfl) ?_
    refine lv_iload_n hx hb dX4_addOpposite_54 rfl (lv_at hl 1 rfl) ?_
    refine lv_icmp_lt (tgt := 87) hx hb dX4_addOpposite_55 (by decide) (fun hc => ?_) (fun hc => ?_)
    · have hq := hq.1 hc
      exact s_X4_addOpposite_87 hs C0  v4 _ _ _ _ hq hH (lv_sub hl [0, 2] rfl)
    · have hq := hq.2 hc
      refine lv_aload_n hx hb dX4_addOpposite_58 rfl (lv_at hl 0 rfl) ?_
      refine w_geti hX hK hH ck4 hs 3 fi4_3 q1_110 dX4_addOpposite_59 ?_
      refine lv_sipush (v := 500) hx hb dX4_addOpposite_62 (by decide) ?_
      refine lv_icmp_ge (tgt := 87) hx hb dX4_addOpposite_65 (by decide) (fun hc => ?_) (fun hc => ?_)
      · have hq := hq.1 hc
        exact s_X4_addOpposite_87 hs C0  v4 _ _ _ _ hq hH (lv_sub hl [0, 2] rfl)
      · have hq := hq.2 hc
        refine lv_aload_n hx hb dX4_addOpposite_68 rfl (lv_at hl 0 rfl) ?_
        refine lv_aload_n hx hb dX4_addOpposite_69 rfl (lv_at hl 0 rfl) ?_
        refine lv_iload hx hb dX4_addOpposite_70 (lv_at hl 3 rfl) ?_
        obtain ⟨hp, hq⟩ := hq
        refine w_cIp hH (w_rV (As := [.int v5]) (rest := [.ref (b + k)]) hX hK hE hH (c_X4_moveAt hs _ _ hp) ck4 hs q2_45 q2_46 q2_47 q1_5 q2_48 hd_X4_moveAt ⟨Nat.le_of_ble_eq_true rfl, Nat.le_of_ble_eq_true rfl⟩ ⟨rfl, rfl⟩ rfl hl.1 rfl (Nat.le_of_ble_eq_true rfl) dX4_addOpposite_72 ⟨Nat.zero_le _, Nat.zero_le _⟩) (fun r1  H locs hpo hH => ?_)
        have hq := hq r1  hpo
        obtain ⟨hp, hq⟩ := hq
        refine w_cIp hH (w_rSN (As := [.int r1]) (rest := [.ref (b + k)]) hX hK hE hH (c_X5_opposite  _ _ hp) qn2_72 q2_73 q1_1 q2_74 hd_X5_opposite.2 ⟨Nat.le_of_ble_eq_true rfl, Nat.le_of_ble_eq_true rfl⟩ ⟨rfl, rfl⟩ rfl hl.1 rfl (Nat.le_of_ble_eq_true rfl) dX4_addOpposite_75 ⟨Nat.zero_le _, Nat.zero_le _⟩) (fun r2  H locs hpo hH => ?_)
        have hq := hq r2  hpo
        obtain ⟨hp, hq⟩ := hq
        refine w_cV hH (w_rV (As := [.int r2]) (rest := []) hX hK hE hH (c_X4_addMove hs _ _ hp) ck4 hs q2_49 q2_51 qs6 q1_5 q2_52 hd_X4_addMove ⟨Nat.le_of_ble_eq_true rfl, Nat.le_of_ble_eq_true rfl⟩ ⟨rfl, rfl⟩ rfl hl.1 rfl (Nat.le_of_ble_eq_true rfl) dX4_addOpposite_78 ⟨Nat.zero_le _, Nat.zero_le _⟩) (fun  I3 H locs hpo hH => ?_)
        have hq := hq  I3 hpo
        refine lv_iinc (v := (v5 + (-1 : Int32))) (lv' := [(5, .int (v5 + (-1 : Int32))), (0, .ref (b + k)), (2, .int x2), (4, .int v4)]) hx hb dX4_addOpposite_81 hl (k := 3) rfl rfl (by decide) rfl (fun ls hl => ?_)
        refine lv_goto (tgt := 52) hx hb dX4_addOpposite_84 (by decide) ?_
        exact hK52 v4 (v5 + (-1 : Int32)) _ _ _ _ hq hH (lv_sub hl [1, 2, 3, 0] rfl)
set_option maxRecDepth 100000 in
set_option maxHeartbeats 4000000 in
theorem s_X4_addOpposite_47 {k : Nat} {x1 : Int32} {x2 : Int32} {x3 : Int32} {Q : wI → Prop} (hs : wSh k = (0, 4)) (C0 : wCx p m c s args meth cX4_addOpposite 6 RX4 none D cs ad b) : ∀ (v4 : Int32) (I : wI) (H : Heap) (locs : List Loc) (ls : Array Slot), v_X4_addOpposite_47 k x1 x2 x3 Q v4 I → wH D cs b G I s H locs → lv_has ls 6 [(0, .ref (b + k)), (2, .int x2), (3, .int x3), (4, .int v4)] → W p l e rm_X4_addOpposite s m args below meth c H locs 0 0 (MQ below (va_Qv (Q) (wPo D cs b G) (fun q => b ≤ q)) args s 0 0 (fun q => b ≤ q)) (F0 m 47 ls []) := by
  obtain ⟨hX, hr, hlk, hK, hE⟩ := id C0
  have hx := hX.1
  have hb := hX.2.1
  have hown := hX.2.2.2.1
  have hts := hX.2.2.2.2
  intro v4 I H locs ls hq hH hl
  unfold v_X4_addOpposite_47 at hq
  refine lv_iload_n hx hb dX4_addOpposite_47 rfl (lv_at hl 2 rfl) ?_
  refine lv_iconst (v := 1) hx hb dX4_addOpposite_48 (by decide) ?_
  refine lv_isub hx hb dX4_addOpposite_49 ?_
  refine lv_istore (lv' := [(5, .int (x3 - (1 : Int32))), (0, .ref (b + k)), (2, .int x2), (3, .int x3), (4, .int v4)]) hx hb dX4_addOpposite_50 hl (by decide) rfl (fun ls hl => ?_)
  obtain ⟨f, hq⟩ := hq
  exact s_X4_addOpposite_52 hs C0  f v4 (x3 - (1 : Int32)) _ _ _ _ hq hH (lv_sub hl [1, 2, 4, 0] rfl)
set_option maxRecDepth 100000 in
set_option maxHeartbeats 4000000 in
theorem s_X4_addOpposite_12 {k : Nat} {x1 : Int32} {x2 : Int32} {x3 : Int32} {Q : wI → Prop} (hs : wSh k = (0, 4)) (C0 : wCx p m c s args meth cX4_addOpposite 6 RX4 none D cs ad b) : ∀ (f : Nat) (v4 : Int32) (v5 : Int32) (I : wI) (H : Heap) (locs : List Loc) (ls : Array Slot), v_X4_addOpposite_12 k x1 x2 x3 Q f v4 v5 I → wH D cs b G I s H locs → lv_has ls 6 [(0, .ref (b + k)), (1, .int x1), (2, .int x2), (3, .int x3), (4, .int v4), (5, .int v5)] → W p l e rm_X4_addOpposite s m args below meth c H locs 0 0 (MQ below (va_Qv (Q) (wPo D cs b G) (fun q => b ≤ q)) args s 0 0 (fun q => b ≤ q)) (F0 m 12 ls []) := by
  obtain ⟨hX, hr, hlk, hK, hE⟩ := id C0
  have hx := hX.1
  have hb := hX.2.1
  have hown := hX.2.2.2.1
  have hts := hX.2.2.2.2
  intro f
  induction f with
  | zero =>
    intro v4 v5 I H locs ls hq
    exact hq.elim
  | succ f hK12 =>
    intro v4 v5 I H locs ls hq hH hl
    have hq : g_X4_addOpposite_12 k x1 x2 x3 Q (v_X4_addOpposite_12 k x1 x2 x3 Q f) v4 v5 I := hq
    unfold g_X4_addOpposite_12 at hq
    refine lv_iload hx hb dX4_addOpposite_12 (lv_at hl 5 rfl) ?_
    refine lv_iload_n hx hb dX4_addOpposite_14 rfl (lv_at hl 1 rfl) ?_
    refine lv_icmp_lt (tgt := 47) hx hb dX4_addOpposite_15 (by decide) (fun hc => ?_) (fun hc => ?_)
    · have hq := hq.1 hc
      exact s_X4_addOpposite_47 hs C0  v4 _ _ _ _ hq hH (lv_sub hl [0, 2, 3, 4] rfl)
    · have hq := hq.2 hc
      refine lv_aload_n hx hb dX4_addOpposite_18 rfl (lv_at hl 0 rfl) ?_
      refine w_geti hX hK hH ck4 hs 3 fi4_3 q1_110 dX4_addOpposite_19 ?_
      refine lv_sipush (v := 500) hx hb dX4_addOpposite_22 (by decide) ?_
      refine lv_icmp_ge (tgt := 47) hx hb dX4_addOpposite_25 (by decide) (fun hc => ?_) (fun hc => ?_)
      · have hq := hq.1 hc
        exact s_X4_addOpposite_47 hs C0  v4 _ _ _ _ hq hH (lv_sub hl [0, 2, 3, 4] rfl)
      · have hq := hq.2 hc
        refine lv_aload_n hx hb dX4_addOpposite_28 rfl (lv_at hl 0 rfl) ?_
        refine lv_aload_n hx hb dX4_addOpposite_29 rfl (lv_at hl 0 rfl) ?_
        refine lv_iload hx hb dX4_addOpposite_30 (lv_at hl 5 rfl) ?_
        obtain ⟨hp, hq⟩ := hq
        refine w_cIp hH (w_rV (As := [.int v5]) (rest := [.ref (b + k)]) hX hK hE hH (c_X4_moveAt hs _ _ hp) ck4 hs q2_45 q2_46 q2_47 q1_5 q2_48 hd_X4_moveAt ⟨Nat.le_of_ble_eq_true rfl, Nat.le_of_ble_eq_true rfl⟩ ⟨rfl, rfl⟩ rfl hl.1 rfl (Nat.le_of_ble_eq_true rfl) dX4_addOpposite_32 ⟨Nat.zero_le _, Nat.zero_le _⟩) (fun r1  H locs hpo hH => ?_)
        have hq := hq r1  hpo
        obtain ⟨hp, hq⟩ := hq
        refine w_cIp hH (w_rSN (As := [.int r1]) (rest := [.ref (b + k)]) hX hK hE hH (c_X5_opposite  _ _ hp) qn2_72 q2_73 q1_1 q2_74 hd_X5_opposite.2 ⟨Nat.le_of_ble_eq_true rfl, Nat.le_of_ble_eq_true rfl⟩ ⟨rfl, rfl⟩ rfl hl.1 rfl (Nat.le_of_ble_eq_true rfl) dX4_addOpposite_35 ⟨Nat.zero_le _, Nat.zero_le _⟩) (fun r2  H locs hpo hH => ?_)
        have hq := hq r2  hpo
        obtain ⟨hp, hq⟩ := hq
        refine w_cV hH (w_rV (As := [.int r2]) (rest := []) hX hK hE hH (c_X4_addMove hs _ _ hp) ck4 hs q2_49 q2_51 qs6 q1_5 q2_52 hd_X4_addMove ⟨Nat.le_of_ble_eq_true rfl, Nat.le_of_ble_eq_true rfl⟩ ⟨rfl, rfl⟩ rfl hl.1 rfl (Nat.le_of_ble_eq_true rfl) dX4_addOpposite_38 ⟨Nat.zero_le _, Nat.zero_le _⟩) (fun  I3 H locs hpo hH => ?_)
        have hq := hq  I3 hpo
        refine lv_iinc (v := (v5 + (-1 : Int32))) (lv' := [(5, .int (v5 + (-1 : Int32))), (0, .ref (b + k)), (1, .int x1), (2, .int x2), (3, .int x3), (4, .int v4)]) hx hb dX4_addOpposite_41 hl (k := 5) rfl rfl (by decide) rfl (fun ls hl => ?_)
        refine lv_goto (tgt := 12) hx hb dX4_addOpposite_44 (by decide) ?_
        exact hK12 v4 (v5 + (-1 : Int32)) _ _ _ _ hq hH (lv_sub hl [1, 2, 3, 4, 5, 0] rfl)
set_option maxRecDepth 100000 in
set_option maxHeartbeats 4000000 in
theorem c_X4_addOpposite {l : Launch} {D : va_G} {cs : wC4} {ad : Nat → Nat} {b : Nat} {G : wG} {k : Nat} (hs : wSh k = (0, 4)) (x1 : Int32) (x2 : Int32) (x3 : Int32) (I : wI) (hp : pre_X4_addOpposite k x1 x2 x3 I) : Met l yX4_addOpposite (ws_ yX4_addOpposite cX4_addOpposite 6 none) rm_X4_addOpposite (va_Pc [.ref (b + k), .int x1, .int x2, .int x3] (wPr D cs ad b G I)) (va_Qv (fun I' => post_X4_addOpposite k x1 x2 x3 I I') (wPo D cs b G) (fun q => b ≤ q)) 0 0 (fun q => b ≤ q) := by
  have hq := vc_X4_addOpposite k x1 x2 x3 hs I hp
  refine w_met (by decide) (Nat.le_of_ble_eq_true rfl) ?_
  intro p e s m below meth c hX hr hlk hK hE hH ls hl
  have C0 : wCx p m c s _ meth cX4_addOpposite 6 RX4 none D cs ad b := ⟨hX, hr, hlk, hK, hE⟩
  have hX : CallFix p m c cX4_addOpposite 6 s _ lw_all RX4 := hX
  have hx := hX.1
  have hb := hX.2.1
  have hown := hX.2.2.2.1
  have hts := hX.2.2.2.2
  have hl : lv_has ls 6 [(0, .ref (b + k)), (1, .int x1), (2, .int x2), (3, .int x3)] := hl
  unfold v_X4_addOpposite at hq
  refine lv_iload_n hx hb dX4_addOpposite_0 rfl (lv_at hl 3 rfl) ?_
  refine lv_iload_n hx hb dX4_addOpposite_1 rfl (lv_at hl 3 rfl) ?_
  refine lv_iadd hx hb dX4_addOpposite_2 ?_
  refine lv_iload_n hx hb dX4_addOpposite_3 rfl (lv_at hl 1 rfl) ?_
  refine lv_isub hx hb dX4_addOpposite_4 ?_
  refine lv_istore (lv' := [(4, .int ((x3 + x3) - x1)), (0, .ref (b + k)), (1, .int x1), (2, .int x2), (3, .int x3)]) hx hb dX4_addOpposite_5 hl (by decide) rfl (fun ls hl => ?_)
  refine lv_iload_n hx hb dX4_addOpposite_7 rfl (lv_at hl 3 rfl) ?_
  refine lv_iconst (v := 1) hx hb dX4_addOpposite_8 (by decide) ?_
  refine lv_isub hx hb dX4_addOpposite_9 ?_
  refine lv_istore (lv' := [(5, .int (x2 - (1 : Int32))), (4, .int ((x3 + x3) - x1)), (0, .ref (b + k)), (1, .int x1), (2, .int x2), (3, .int x3)]) hx hb dX4_addOpposite_10 hl (by decide) rfl (fun ls hl => ?_)
  obtain ⟨f, hq⟩ := hq
  exact s_X4_addOpposite_12 hs C0  f ((x3 + x3) - x1) (x2 - (1 : Int32)) _ _ _ _ hq hH (lv_sub hl [2, 3, 4, 5, 1, 0] rfl)
abbrev rm_X4_takesInBracket : Room := { frames := 3, cells := 0, slots := 0, locals := 66 }
theorem hd_X4_takesInBracket : yX4_takesInBracket.cls = RX4 ∧ yX4_takesInBracket.cls ≠ "java/lang/invoke/MethodHandle" ∧ yX4_takesInBracket.cls ≠ "java/lang/invoke/VarHandle" ∧ (parseMethodDescriptor yX4_takesInBracket.desc).map (fun d => d.parameters.length) = some 1 := by decide +kernel
set_option maxRecDepth 100000 in
set_option maxHeartbeats 4000000 in
theorem s_X4_takesInBracket_123 {k : Nat} {x1 : Int32} {Q : Int32 → wI → Prop} (hs : wSh k = (0, 4)) (C0 : wCx p m c s args meth cX4_takesInBracket 3 RX4 (some .boolean) D cs ad b) : ∀  (I : wI) (H : Heap) (locs : List Loc) (ls : Array Slot), v_X4_takesInBracket_123 k x1 Q  I → wH D cs b G I s H locs → lv_has ls 3 [] → W p l e rm_X4_takesInBracket s m args below meth c H locs 0 0 (MQ below (va_Qi (Q) (wPo D cs b G) (fun q => b ≤ q)) args s 0 0 (fun q => b ≤ q)) (F0 m 123 ls []) := by
  obtain ⟨hX, hr, hlk, hK, hE⟩ := id C0
  have hx := hX.1
  have hb := hX.2.1
  have hown := hX.2.2.2.1
  have hts := hX.2.2.2.2
  intro  I H locs ls hq hH hl
  unfold v_X4_takesInBracket_123 at hq
  refine lv_iconst (v := 0) hx hb dX4_takesInBracket_123 (by decide) ?_
  exact w_eZ (by decide) hX hr hlk hH hq dX4_takesInBracket_124
set_option maxRecDepth 100000 in
set_option maxHeartbeats 4000000 in
theorem s_X4_takesInBracket_80 {k : Nat} {x1 : Int32} {Q : Int32 → wI → Prop} (hs : wSh k = (0, 4)) (C0 : wCx p m c s args meth cX4_takesInBracket 3 RX4 (some .boolean) D cs ad b) : ∀ (v2 : Int32) (I : wI) (H : Heap) (locs : List Loc) (ls : Array Slot), v_X4_takesInBracket_80 k x1 Q v2 I → wH D cs b G I s H locs → lv_has ls 3 [(0, .ref (b + k)), (1, .int x1), (2, .int v2)] → W p l e rm_X4_takesInBracket s m args below meth c H locs 0 0 (MQ below (va_Qi (Q) (wPo D cs b G) (fun q => b ≤ q)) args s 0 0 (fun q => b ≤ q)) (F0 m 80 ls []) := by
  obtain ⟨hX, hr, hlk, hK, hE⟩ := id C0
  have hx := hX.1
  have hb := hX.2.1
  have hown := hX.2.2.2.1
  have hts := hX.2.2.2.2
  intro v2 I H locs ls hq hH hl
  unfold v_X4_takesInBracket_80 at hq
  refine lv_aload_n hx hb dX4_takesInBracket_80 rfl (lv_at hl 0 rfl) ?_
  refine w_getr hX hK hH ck4 hs 5 3 (k + 3) fr4_5 rfl q1_114 dX4_takesInBracket_81 ?_
  refine lv_iload_n hx hb dX4_takesInBracket_84 rfl (lv_at hl 2 rfl) ?_
  obtain ⟨hc, hq⟩ := hq
  refine w_iald hX hK hH (sf4_5 hs) hc dX4_takesInBracket_85 ?_
  refine lv_iconst (v := 2) hx hb dX4_takesInBracket_86 (by decide) ?_
  refine lv_icmp_ne (tgt := 123) hx hb dX4_takesInBracket_87 (by decide) (fun hc => ?_) (fun hc => ?_)
  · have hq := hq.1 hc
    exact s_X4_takesInBracket_123 hs C0   _ _ _ _ hq hH (lv_sub hl [] rfl)
  · have hq := hq.2 hc
    refine lv_iload_n hx hb dX4_takesInBracket_90 rfl (lv_at hl 1 rfl) ?_
    refine lv_bipush (v := 93) hx hb dX4_takesInBracket_91 (by decide) ?_
    refine lv_icmp_ne (tgt := 123) hx hb dX4_takesInBracket_93 (by decide) (fun hc => ?_) (fun hc => ?_)
    · have hq := hq.1 hc
      exact s_X4_takesInBracket_123 hs C0   _ _ _ _ hq hH (lv_sub hl [] rfl)
    · have hq := hq.2 hc
      refine lv_aload_n hx hb dX4_takesInBracket_96 rfl (lv_at hl 0 rfl) ?_
      refine lv_iload_n hx hb dX4_takesInBracket_97 rfl (lv_at hl 2 rfl) ?_
      refine w_puti hX hK hH ck4 hs 8 fw4_8 q1_117 dX4_takesInBracket_98 (fun I1 H locs hI hH => ?_)
      have hq := hq I1 hI
      refine lv_aload_n hx hb dX4_takesInBracket_101 rfl (lv_at hl 0 rfl) ?_
      refine lv_aload_n hx hb dX4_takesInBracket_102 rfl (lv_at hl 0 rfl) ?_
      refine w_getr hX hK hH ck4 hs 6 4 (k + 4) fr4_6 rfl q1_115 dX4_takesInBracket_103 ?_
      refine lv_iload_n hx hb dX4_takesInBracket_106 rfl (lv_at hl 2 rfl) ?_
      obtain ⟨hc, hq⟩ := hq
      refine w_iald hX hK hH (sf4_6 hs) hc dX4_takesInBracket_107 ?_
      refine lv_aload_n hx hb dX4_takesInBracket_108 rfl (lv_at hl 0 rfl) ?_
      refine w_getr hX hK hH ck4 hs 7 5 (k + 5) fr4_7 rfl q1_116 dX4_takesInBracket_109 ?_
      refine lv_iload_n hx hb dX4_takesInBracket_112 rfl (lv_at hl 2 rfl) ?_
      obtain ⟨hc, hq⟩ := hq
      refine w_iald hX hK hH (sf4_7 hs) hc dX4_takesInBracket_113 ?_
      refine lv_aload_n hx hb dX4_takesInBracket_114 rfl (lv_at hl 0 rfl) ?_
      refine w_geti hX hK hH ck4 hs 3 fi4_3 q1_110 dX4_takesInBracket_115 ?_
      obtain ⟨hp, hq⟩ := hq
      refine w_cV hH (w_rV (As := [.int (I1 (k + 4) (v2).toNatClampNeg), .int (I1 (k + 5) (v2).toNatClampNeg), .int (I1 k 3)]) (rest := []) hX hK hE hH (c_X4_addOpposite hs _ _ _ _ hp) ck4 hs q2_68 q2_70 qs10 q1_5 q2_71 hd_X4_addOpposite ⟨Nat.le_of_ble_eq_true rfl, Nat.le_of_ble_eq_true rfl⟩ ⟨rfl, rfl⟩ rfl hl.1 rfl (Nat.le_of_ble_eq_true rfl) dX4_takesInBracket_118 ⟨Nat.zero_le _, Nat.zero_le _⟩) (fun  I2 H locs hpo hH => ?_)
      have hq := hq  I2 hpo
      refine lv_iconst (v := 1) hx hb dX4_takesInBracket_121 (by decide) ?_
      exact w_eZ (by decide) hX hr hlk hH hq dX4_takesInBracket_122
set_option maxRecDepth 100000 in
set_option maxHeartbeats 4000000 in
theorem s_X4_takesInBracket_40 {k : Nat} {x1 : Int32} {Q : Int32 → wI → Prop} (hs : wSh k = (0, 4)) (C0 : wCx p m c s args meth cX4_takesInBracket 3 RX4 (some .boolean) D cs ad b) : ∀ (v2 : Int32) (I : wI) (H : Heap) (locs : List Loc) (ls : Array Slot), v_X4_takesInBracket_40 k x1 Q v2 I → wH D cs b G I s H locs → lv_has ls 3 [(0, .ref (b + k)), (1, .int x1), (2, .int v2)] → W p l e rm_X4_takesInBracket s m args below meth c H locs 0 0 (MQ below (va_Qi (Q) (wPo D cs b G) (fun q => b ≤ q)) args s 0 0 (fun q => b ≤ q)) (F0 m 40 ls []) := by
  obtain ⟨hX, hr, hlk, hK, hE⟩ := id C0
  have hx := hX.1
  have hb := hX.2.1
  have hown := hX.2.2.2.1
  have hts := hX.2.2.2.2
  intro v2 I H locs ls hq hH hl
  unfold v_X4_takesInBracket_40 at hq
  refine lv_aload_n hx hb dX4_takesInBracket_40 rfl (lv_at hl 0 rfl) ?_
  refine w_getr hX hK hH ck4 hs 5 3 (k + 3) fr4_5 rfl q1_114 dX4_takesInBracket_41 ?_
  refine lv_iload_n hx hb dX4_takesInBracket_44 rfl (lv_at hl 2 rfl) ?_
  obtain ⟨hc, hq⟩ := hq
  refine w_iald hX hK hH (sf4_5 hs) hc dX4_takesInBracket_45 ?_
  refine lv_iconst (v := 1) hx hb dX4_takesInBracket_46 (by decide) ?_
  refine lv_icmp_ne (tgt := 80) hx hb dX4_takesInBracket_47 (by decide) (fun hc => ?_) (fun hc => ?_)
  · have hq := hq.1 hc
    exact s_X4_takesInBracket_80 hs C0  v2 _ _ _ _ hq hH (lv_sub hl [0, 1, 2] rfl)
  · have hq := hq.2 hc
    refine lv_iload_n hx hb dX4_takesInBracket_50 rfl (lv_at hl 1 rfl) ?_
    refine lv_bipush (v := 44) hx hb dX4_takesInBracket_51 (by decide) ?_
    refine lv_icmp_ne (tgt := 80) hx hb dX4_takesInBracket_53 (by decide) (fun hc => ?_) (fun hc => ?_)
    · have hq := hq.1 hc
      exact s_X4_takesInBracket_80 hs C0  v2 _ _ _ _ hq hH (lv_sub hl [0, 1, 2] rfl)
    · have hq := hq.2 hc
      refine lv_aload_n hx hb dX4_takesInBracket_56 rfl (lv_at hl 0 rfl) ?_
      refine w_getr hX hK hH ck4 hs 5 3 (k + 3) fr4_5 rfl q1_114 dX4_takesInBracket_57 ?_
      refine lv_iload_n hx hb dX4_takesInBracket_60 rfl (lv_at hl 2 rfl) ?_
      refine lv_iconst (v := 2) hx hb dX4_takesInBracket_61 (by decide) ?_
      obtain ⟨hc, hq⟩ := hq
      refine w_iast hX hK hH (sf4_5 hs) hc dX4_takesInBracket_62 (fun I1 H locs hI hH => ?_)
      have hq := hq I1 hI
      refine lv_aload_n hx hb dX4_takesInBracket_63 rfl (lv_at hl 0 rfl) ?_
      refine w_getr hX hK hH ck4 hs 7 5 (k + 5) fr4_7 rfl q1_116 dX4_takesInBracket_64 ?_
      refine lv_iload_n hx hb dX4_takesInBracket_67 rfl (lv_at hl 2 rfl) ?_
      refine lv_aload_n hx hb dX4_takesInBracket_68 rfl (lv_at hl 0 rfl) ?_
      refine w_geti hX hK hH ck4 hs 3 fi4_3 q1_110 dX4_takesInBracket_69 ?_
      obtain ⟨hc, hq⟩ := hq
      refine w_iast hX hK hH (sf4_7 hs) hc dX4_takesInBracket_72 (fun I2 H locs hI hH => ?_)
      have hq := hq I2 hI
      refine lv_aload_n hx hb dX4_takesInBracket_73 rfl (lv_at hl 0 rfl) ?_
      refine lv_iconst (v := 0) hx hb dX4_takesInBracket_74 (by decide) ?_
      refine w_putz (by decide) hX hK hH ck4 hs 9 fw4_9 q1_118 dX4_takesInBracket_75 (fun I3 H locs hI hH => ?_)
      have hq := hq I3 hI
      refine lv_iconst (v := 1) hx hb dX4_takesInBracket_78 (by decide) ?_
      exact w_eZ (by decide) hX hr hlk hH hq dX4_takesInBracket_79
set_option maxRecDepth 100000 in
set_option maxHeartbeats 4000000 in
theorem s_X4_takesInBracket_16 {k : Nat} {x1 : Int32} {Q : Int32 → wI → Prop} (hs : wSh k = (0, 4)) (C0 : wCx p m c s args meth cX4_takesInBracket 3 RX4 (some .boolean) D cs ad b) : ∀  (I : wI) (H : Heap) (locs : List Loc) (ls : Array Slot), v_X4_takesInBracket_16 k x1 Q  I → wH D cs b G I s H locs → lv_has ls 3 [] → W p l e rm_X4_takesInBracket s m args below meth c H locs 0 0 (MQ below (va_Qi (Q) (wPo D cs b G) (fun q => b ≤ q)) args s 0 0 (fun q => b ≤ q)) (F0 m 16 ls []) := by
  obtain ⟨hX, hr, hlk, hK, hE⟩ := id C0
  have hx := hX.1
  have hb := hX.2.1
  have hown := hX.2.2.2.1
  have hts := hX.2.2.2.2
  intro  I H locs ls hq hH hl
  unfold v_X4_takesInBracket_16 at hq
  refine lv_iconst (v := 0) hx hb dX4_takesInBracket_16 (by decide) ?_
  exact w_eZ (by decide) hX hr hlk hH hq dX4_takesInBracket_17
set_option maxRecDepth 100000 in
set_option maxHeartbeats 4000000 in
theorem c_X4_takesInBracket {l : Launch} {D : va_G} {cs : wC4} {ad : Nat → Nat} {b : Nat} {G : wG} {k : Nat} (hs : wSh k = (0, 4)) (x1 : Int32) (I : wI) (hp : pre_X4_takesInBracket k x1 I) : Met l yX4_takesInBracket (ws_ yX4_takesInBracket cX4_takesInBracket 3 (some .boolean)) rm_X4_takesInBracket (va_Pc [.ref (b + k), .int x1] (wPr D cs ad b G I)) (va_Qi (fun r I' => post_X4_takesInBracket k x1 I r I') (wPo D cs b G) (fun q => b ≤ q)) 0 0 (fun q => b ≤ q) := by
  have hq := vc_X4_takesInBracket k x1 hs I hp
  refine w_met (by decide) (Nat.le_of_ble_eq_true rfl) ?_
  intro p e s m below meth c hX hr hlk hK hE hH ls hl
  have C0 : wCx p m c s _ meth cX4_takesInBracket 3 RX4 (some .boolean) D cs ad b := ⟨hX, hr, hlk, hK, hE⟩
  have hX : CallFix p m c cX4_takesInBracket 3 s _ lw_all RX4 := hX
  have hx := hX.1
  have hb := hX.2.1
  have hown := hX.2.2.2.1
  have hts := hX.2.2.2.2
  have hl : lv_has ls 3 [(0, .ref (b + k)), (1, .int x1)] := hl
  unfold v_X4_takesInBracket at hq
  refine lv_aload_n hx hb dX4_takesInBracket_0 rfl (lv_at hl 0 rfl) ?_
  refine w_geti hX hK hH ck4 hs 8 fi4_8 q1_117 dX4_takesInBracket_1 ?_
  refine lv_iconst (v := 1) hx hb dX4_takesInBracket_4 (by decide) ?_
  refine lv_isub hx hb dX4_takesInBracket_5 ?_
  refine lv_istore_n (lv' := [(2, .int ((I k 8) - (1 : Int32))), (0, .ref (b + k)), (1, .int x1)]) hx hb dX4_takesInBracket_6 rfl hl (by decide) rfl (fun ls hl => ?_)
  refine lv_iload_n hx hb dX4_takesInBracket_7 rfl (lv_at hl 0 rfl) ?_
  refine lv_if_lt (tgt := 16) hx hb dX4_takesInBracket_8 (by decide) (fun hc => ?_) (fun hc => ?_)
  · have hq := hq.1 hc
    exact s_X4_takesInBracket_16 hs C0   _ _ _ _ hq hH (lv_sub hl [] rfl)
  · have hq := hq.2 hc
    refine lv_iload_n hx hb dX4_takesInBracket_11 rfl (lv_at hl 0 rfl) ?_
    refine lv_iconst (v := 4) hx hb dX4_takesInBracket_12 (by decide) ?_
    refine lv_icmp_lt (tgt := 18) hx hb dX4_takesInBracket_13 (by decide) (fun hc => ?_) (fun hc => ?_)
    · have hq := hq.1 hc
      refine lv_aload_n hx hb dX4_takesInBracket_18 rfl (lv_at hl 1 rfl) ?_
      refine w_getr hX hK hH ck4 hs 5 3 (k + 3) fr4_5 rfl q1_114 dX4_takesInBracket_19 ?_
      refine lv_iload_n hx hb dX4_takesInBracket_22 rfl (lv_at hl 0 rfl) ?_
      obtain ⟨hc, hq⟩ := hq
      refine w_iald hX hK hH (sf4_5 hs) hc dX4_takesInBracket_23 ?_
      refine lv_if_ne (tgt := 40) hx hb dX4_takesInBracket_24 (by decide) (fun hc => ?_) (fun hc => ?_)
      · have hq := hq.1 hc
        exact s_X4_takesInBracket_40 hs C0  ((I k 8) - (1 : Int32)) _ _ _ _ hq hH (lv_sub hl [1, 2, 0] rfl)
      · have hq := hq.2 hc
        refine lv_iload_n hx hb dX4_takesInBracket_27 rfl (lv_at hl 2 rfl) ?_
        refine lv_bipush (v := 41) hx hb dX4_takesInBracket_28 (by decide) ?_
        refine lv_icmp_ne (tgt := 40) hx hb dX4_takesInBracket_30 (by decide) (fun hc => ?_) (fun hc => ?_)
        · have hq := hq.1 hc
          exact s_X4_takesInBracket_40 hs C0  ((I k 8) - (1 : Int32)) _ _ _ _ hq hH (lv_sub hl [1, 2, 0] rfl)
        · have hq := hq.2 hc
          refine lv_aload_n hx hb dX4_takesInBracket_33 rfl (lv_at hl 1 rfl) ?_
          refine lv_iconst (v := 1) hx hb dX4_takesInBracket_34 (by decide) ?_
          refine w_putz (by decide) hX hK hH ck4 hs 10 fw4_10 q1_119 dX4_takesInBracket_35 (fun I1 H locs hI hH => ?_)
          have hq := hq I1 hI
          refine lv_iconst (v := 1) hx hb dX4_takesInBracket_38 (by decide) ?_
          exact w_eZ (by decide) hX hr hlk hH hq dX4_takesInBracket_39
    · have hq := hq.2 hc
      exact s_X4_takesInBracket_16 hs C0   _ _ _ _ hq hH (lv_sub hl [] rfl)
abbrev rm_X4_takes : Room := { frames := 4, cells := 0, slots := 0, locals := 88 }
theorem hd_X4_takes : yX4_takes.cls = RX4 ∧ yX4_takes.cls ≠ "java/lang/invoke/MethodHandle" ∧ yX4_takes.cls ≠ "java/lang/invoke/VarHandle" ∧ (parseMethodDescriptor yX4_takes.desc).map (fun d => d.parameters.length) = some 1 := by decide +kernel
set_option maxRecDepth 100000 in
set_option maxHeartbeats 4000000 in
theorem s_X4_takes_107 {k : Nat} {x1 : Int32} {Q : Int32 → wI → Prop} (hs : wSh k = (0, 4)) (C0 : wCx p m c s args meth cX4_takes 2 RX4 (some .boolean) D cs ad b) : ∀ (t0 : Int32) (I : wI) (H : Heap) (locs : List Loc) (ls : Array Slot), v_X4_takes_107 k x1 Q t0 I → wH D cs b G I s H locs → lv_has ls 2 [] → W p l e rm_X4_takes s m args below meth c H locs 0 0 (MQ below (va_Qi (Q) (wPo D cs b G) (fun q => b ≤ q)) args s 0 0 (fun q => b ≤ q)) (F0 m 107 ls [.int t0]) := by
  obtain ⟨hX, hr, hlk, hK, hE⟩ := id C0
  have hx := hX.1
  have hb := hX.2.1
  have hown := hX.2.2.2.1
  have hts := hX.2.2.2.2
  intro t0 I H locs ls hq hH hl
  unfold v_X4_takes_107 at hq
  obtain ⟨hz, hq⟩ := hq
  exact w_eZ hz hX hr hlk hH hq dX4_takes_107
set_option maxRecDepth 100000 in
set_option maxHeartbeats 4000000 in
theorem s_X4_takes_106 {k : Nat} {x1 : Int32} {Q : Int32 → wI → Prop} (hs : wSh k = (0, 4)) (C0 : wCx p m c s args meth cX4_takes 2 RX4 (some .boolean) D cs ad b) : ∀  (I : wI) (H : Heap) (locs : List Loc) (ls : Array Slot), v_X4_takes_106 k x1 Q  I → wH D cs b G I s H locs → lv_has ls 2 [] → W p l e rm_X4_takes s m args below meth c H locs 0 0 (MQ below (va_Qi (Q) (wPo D cs b G) (fun q => b ≤ q)) args s 0 0 (fun q => b ≤ q)) (F0 m 106 ls []) := by
  obtain ⟨hX, hr, hlk, hK, hE⟩ := id C0
  have hx := hX.1
  have hb := hX.2.1
  have hown := hX.2.2.2.1
  have hts := hX.2.2.2.2
  intro  I H locs ls hq hH hl
  unfold v_X4_takes_106 at hq
  refine lv_iconst (v := 0) hx hb dX4_takes_106 (by decide) ?_
  exact s_X4_takes_107 hs C0  (0 : Int32) _ _ _ _ hq hH (lv_sub hl [] rfl)
set_option maxRecDepth 100000 in
set_option maxHeartbeats 4000000 in
theorem s_X4_takes_63 {k : Nat} {x1 : Int32} {Q : Int32 → wI → Prop} (hs : wSh k = (0, 4)) (C0 : wCx p m c s args meth cX4_takes 2 RX4 (some .boolean) D cs ad b) : ∀  (I : wI) (H : Heap) (locs : List Loc) (ls : Array Slot), v_X4_takes_63 k x1 Q  I → wH D cs b G I s H locs → lv_has ls 2 [(0, .ref (b + k)), (1, .int x1)] → W p l e rm_X4_takes s m args below meth c H locs 0 0 (MQ below (va_Qi (Q) (wPo D cs b G) (fun q => b ≤ q)) args s 0 0 (fun q => b ≤ q)) (F0 m 63 ls []) := by
  obtain ⟨hX, hr, hlk, hK, hE⟩ := id C0
  have hx := hX.1
  have hb := hX.2.1
  have hown := hX.2.2.2.1
  have hts := hX.2.2.2.2
  intro  I H locs ls hq hH hl
  unfold v_X4_takes_63 at hq
  refine lv_iload_n hx hb dX4_takes_63 rfl (lv_at hl 1 rfl) ?_
  refine lv_bipush (v := 40) hx hb dX4_takes_64 (by decide) ?_
  refine lv_icmp_ne (tgt := 75) hx hb dX4_takes_66 (by decide) (fun hc => ?_) (fun hc => ?_)
  · have hq := hq.1 hc
    refine lv_iload_n hx hb dX4_takes_75 rfl (lv_at hl 1 rfl) ?_
    refine lv_bipush (v := 91) hx hb dX4_takes_76 (by decide) ?_
    refine lv_icmp_ne (tgt := 87) hx hb dX4_takes_78 (by decide) (fun hc => ?_) (fun hc => ?_)
    · have hq := hq.1 hc
      refine lv_aload_n hx hb dX4_takes_87 rfl (lv_at hl 0 rfl) ?_
      refine w_geti hX hK hH ck4 hs 9 fi4_9 q1_118 dX4_takes_88 ?_
      refine lv_if_eq (tgt := 106) hx hb dX4_takes_91 (by decide) (fun hc => ?_) (fun hc => ?_)
      · have hq := hq.1 hc
        exact s_X4_takes_106 hs C0   _ _ _ _ hq hH (lv_sub hl [] rfl)
      · have hq := hq.2 hc
        refine lv_aload_n hx hb dX4_takes_94 rfl (lv_at hl 0 rfl) ?_
        refine lv_iload_n hx hb dX4_takes_95 rfl (lv_at hl 1 rfl) ?_
        obtain ⟨hp, hq⟩ := hq
        refine w_cI hH (w_rV (As := [.int x1]) (rest := []) hX hK hE hH (c_X4_takesInBracket hs _ _ hp) ck4 hs q2_64 q2_66 qs9 q1_5 q2_67 hd_X4_takesInBracket ⟨Nat.le_of_ble_eq_true rfl, Nat.le_of_ble_eq_true rfl⟩ ⟨rfl, rfl⟩ rfl hl.1 rfl (Nat.le_of_ble_eq_true rfl) dX4_takes_96 ⟨Nat.zero_le _, Nat.zero_le _⟩) (fun r1 I2 H locs hpo hH => ?_)
        have hq := hq r1 I2 hpo
        refine lv_if_eq (tgt := 106) hx hb dX4_takes_99 (by decide) (fun hc => ?_) (fun hc => ?_)
        · have hq := hq.1 hc
          exact s_X4_takes_106 hs C0   _ _ _ _ hq hH (lv_sub hl [] rfl)
        · have hq := hq.2 hc
          refine lv_iconst (v := 1) hx hb dX4_takes_102 (by decide) ?_
          refine lv_goto (tgt := 107) hx hb dX4_takes_103 (by decide) ?_
          exact s_X4_takes_107 hs C0  (1 : Int32) _ _ _ _ hq hH (lv_sub hl [] rfl)
    · have hq := hq.2 hc
      refine lv_aload_n hx hb dX4_takes_81 rfl (lv_at hl 0 rfl) ?_
      refine lv_iconst (v := 1) hx hb dX4_takes_82 (by decide) ?_
      obtain ⟨hp, hq⟩ := hq
      refine w_cI hH (w_rV (As := [.int (1 : Int32)]) (rest := []) hX hK hE hH (c_X4_takesOpening hs _ _ hp) ck4 hs q2_60 q2_62 qs8 q1_5 q2_63 hd_X4_takesOpening ⟨Nat.le_of_ble_eq_true rfl, Nat.le_of_ble_eq_true rfl⟩ ⟨rfl, rfl⟩ rfl hl.1 rfl (Nat.le_of_ble_eq_true rfl) dX4_takes_83 ⟨Nat.zero_le _, Nat.zero_le _⟩) (fun r3 I4 H locs hpo hH => ?_)
      have hq := hq r3 I4 hpo
      obtain ⟨hz, hq⟩ := hq
      exact w_eZ hz hX hr hlk hH hq dX4_takes_86
  · have hq := hq.2 hc
    refine lv_aload_n hx hb dX4_takes_69 rfl (lv_at hl 0 rfl) ?_
    refine lv_iconst (v := 0) hx hb dX4_takes_70 (by decide) ?_
    obtain ⟨hp, hq⟩ := hq
    refine w_cI hH (w_rV (As := [.int (0 : Int32)]) (rest := []) hX hK hE hH (c_X4_takesOpening hs _ _ hp) ck4 hs q2_60 q2_62 qs8 q1_5 q2_63 hd_X4_takesOpening ⟨Nat.le_of_ble_eq_true rfl, Nat.le_of_ble_eq_true rfl⟩ ⟨rfl, rfl⟩ rfl hl.1 rfl (Nat.le_of_ble_eq_true rfl) dX4_takes_71 ⟨Nat.zero_le _, Nat.zero_le _⟩) (fun r5 I6 H locs hpo hH => ?_)
    have hq := hq r5 I6 hpo
    obtain ⟨hz, hq⟩ := hq
    exact w_eZ hz hX hr hlk hH hq dX4_takes_74
set_option maxRecDepth 100000 in
set_option maxHeartbeats 4000000 in
theorem s_X4_takes_38 {k : Nat} {x1 : Int32} {Q : Int32 → wI → Prop} (hs : wSh k = (0, 4)) (C0 : wCx p m c s args meth cX4_takes 2 RX4 (some .boolean) D cs ad b) : ∀  (I : wI) (H : Heap) (locs : List Loc) (ls : Array Slot), v_X4_takes_38 k x1 Q  I → wH D cs b G I s H locs → lv_has ls 2 [(0, .ref (b + k)), (1, .int x1)] → W p l e rm_X4_takes s m args below meth c H locs 0 0 (MQ below (va_Qi (Q) (wPo D cs b G) (fun q => b ≤ q)) args s 0 0 (fun q => b ≤ q)) (F0 m 38 ls []) := by
  obtain ⟨hX, hr, hlk, hK, hE⟩ := id C0
  have hx := hX.1
  have hb := hX.2.1
  have hown := hX.2.2.2.1
  have hts := hX.2.2.2.2
  intro  I H locs ls hq hH hl
  unfold v_X4_takes_38 at hq
  refine lv_iload_n hx hb dX4_takes_38 rfl (lv_at hl 1 rfl) ?_
  refine lv_bipush (v := 65) hx hb dX4_takes_39 (by decide) ?_
  refine lv_icmp_lt (tgt := 63) hx hb dX4_takes_41 (by decide) (fun hc => ?_) (fun hc => ?_)
  · have hq := hq.1 hc
    exact s_X4_takes_63 hs C0   _ _ _ _ hq hH (lv_sub hl [0, 1] rfl)
  · have hq := hq.2 hc
    refine lv_iload_n hx hb dX4_takes_44 rfl (lv_at hl 1 rfl) ?_
    refine lv_bipush (v := 69) hx hb dX4_takes_45 (by decide) ?_
    refine lv_icmp_gt (tgt := 63) hx hb dX4_takes_47 (by decide) (fun hc => ?_) (fun hc => ?_)
    · have hq := hq.1 hc
      exact s_X4_takes_63 hs C0   _ _ _ _ hq hH (lv_sub hl [0, 1] rfl)
    · have hq := hq.2 hc
      refine lv_aload_n hx hb dX4_takes_50 rfl (lv_at hl 0 rfl) ?_
      refine lv_iload_n hx hb dX4_takes_51 rfl (lv_at hl 1 rfl) ?_
      refine lv_bipush (v := 65) hx hb dX4_takes_52 (by decide) ?_
      refine lv_isub hx hb dX4_takes_54 ?_
      refine lv_iconst (v := 1) hx hb dX4_takes_55 (by decide) ?_
      obtain ⟨hp, hq⟩ := hq
      refine w_cIp hH (w_rSN (As := [.int (x1 - (65 : Int32)), .int (1 : Int32)]) (rest := [.ref (b + k)]) hX hK hE hH (c_X5_moveOf  _ _ _ hp) qn2_53 q2_54 q1_1 q2_55 hd_X5_moveOf.2 ⟨Nat.le_of_ble_eq_true rfl, Nat.le_of_ble_eq_true rfl⟩ ⟨rfl, rfl⟩ rfl hl.1 rfl (Nat.le_of_ble_eq_true rfl) dX4_takes_56 ⟨Nat.zero_le _, Nat.zero_le _⟩) (fun r1  H locs hpo hH => ?_)
      have hq := hq r1  hpo
      obtain ⟨hp, hq⟩ := hq
      refine w_cI hH (w_rV (As := [.int r1]) (rest := []) hX hK hE hH (c_X4_takesMove hs _ _ hp) ck4 hs q2_56 q2_58 qs7 q1_5 q2_59 hd_X4_takesMove ⟨Nat.le_of_ble_eq_true rfl, Nat.le_of_ble_eq_true rfl⟩ ⟨rfl, rfl⟩ rfl hl.1 rfl (Nat.le_of_ble_eq_true rfl) dX4_takes_59 ⟨Nat.zero_le _, Nat.zero_le _⟩) (fun r2 I3 H locs hpo hH => ?_)
      have hq := hq r2 I3 hpo
      obtain ⟨hz, hq⟩ := hq
      exact w_eZ hz hX hr hlk hH hq dX4_takes_62
set_option maxRecDepth 100000 in
set_option maxHeartbeats 4000000 in
theorem c_X4_takes {l : Launch} {D : va_G} {cs : wC4} {ad : Nat → Nat} {b : Nat} {G : wG} {k : Nat} (hs : wSh k = (0, 4)) (x1 : Int32) (I : wI) (hp : pre_X4_takes k x1 I) : Met l yX4_takes (ws_ yX4_takes cX4_takes 2 (some .boolean)) rm_X4_takes (va_Pc [.ref (b + k), .int x1] (wPr D cs ad b G I)) (va_Qi (fun r I' => post_X4_takes k x1 I r I') (wPo D cs b G) (fun q => b ≤ q)) 0 0 (fun q => b ≤ q) := by
  have hq := vc_X4_takes k x1 hs I hp
  refine w_met (by decide) (Nat.le_of_ble_eq_true rfl) ?_
  intro p e s m below meth c hX hr hlk hK hE hH ls hl
  have C0 : wCx p m c s _ meth cX4_takes 2 RX4 (some .boolean) D cs ad b := ⟨hX, hr, hlk, hK, hE⟩
  have hX : CallFix p m c cX4_takes 2 s _ lw_all RX4 := hX
  have hx := hX.1
  have hb := hX.2.1
  have hown := hX.2.2.2.1
  have hts := hX.2.2.2.2
  have hl : lv_has ls 2 [(0, .ref (b + k)), (1, .int x1)] := hl
  unfold v_X4_takes at hq
  refine lv_aload_n hx hb dX4_takes_0 rfl (lv_at hl 0 rfl) ?_
  refine w_geti hX hK hH ck4 hs 10 fi4_10 q1_119 dX4_takes_1 ?_
  refine lv_if_eq (tgt := 13) hx hb dX4_takes_4 (by decide) (fun hc => ?_) (fun hc => ?_)
  · have hq := hq.1 hc
    refine lv_iload_n hx hb dX4_takes_13 rfl (lv_at hl 1 rfl) ?_
    refine lv_bipush (v := 97) hx hb dX4_takes_14 (by decide) ?_
    refine lv_icmp_lt (tgt := 38) hx hb dX4_takes_16 (by decide) (fun hc => ?_) (fun hc => ?_)
    · have hq := hq.1 hc
      exact s_X4_takes_38 hs C0   _ _ _ _ hq hH (lv_sub hl [0, 1] rfl)
    · have hq := hq.2 hc
      refine lv_iload_n hx hb dX4_takes_19 rfl (lv_at hl 1 rfl) ?_
      refine lv_bipush (v := 101) hx hb dX4_takes_20 (by decide) ?_
      refine lv_icmp_gt (tgt := 38) hx hb dX4_takes_22 (by decide) (fun hc => ?_) (fun hc => ?_)
      · have hq := hq.1 hc
        exact s_X4_takes_38 hs C0   _ _ _ _ hq hH (lv_sub hl [0, 1] rfl)
      · have hq := hq.2 hc
        refine lv_aload_n hx hb dX4_takes_25 rfl (lv_at hl 0 rfl) ?_
        refine lv_iload_n hx hb dX4_takes_26 rfl (lv_at hl 1 rfl) ?_
        refine lv_bipush (v := 97) hx hb dX4_takes_27 (by decide) ?_
        refine lv_isub hx hb dX4_takes_29 ?_
        refine lv_iconst (v := 0) hx hb dX4_takes_30 (by decide) ?_
        obtain ⟨hp, hq⟩ := hq
        refine w_cIp hH (w_rSN (As := [.int (x1 - (97 : Int32)), .int (0 : Int32)]) (rest := [.ref (b + k)]) hX hK hE hH (c_X5_moveOf  _ _ _ hp) qn2_53 q2_54 q1_1 q2_55 hd_X5_moveOf.2 ⟨Nat.le_of_ble_eq_true rfl, Nat.le_of_ble_eq_true rfl⟩ ⟨rfl, rfl⟩ rfl hl.1 rfl (Nat.le_of_ble_eq_true rfl) dX4_takes_31 ⟨Nat.zero_le _, Nat.zero_le _⟩) (fun r1  H locs hpo hH => ?_)
        have hq := hq r1  hpo
        obtain ⟨hp, hq⟩ := hq
        refine w_cI hH (w_rV (As := [.int r1]) (rest := []) hX hK hE hH (c_X4_takesMove hs _ _ hp) ck4 hs q2_56 q2_58 qs7 q1_5 q2_59 hd_X4_takesMove ⟨Nat.le_of_ble_eq_true rfl, Nat.le_of_ble_eq_true rfl⟩ ⟨rfl, rfl⟩ rfl hl.1 rfl (Nat.le_of_ble_eq_true rfl) dX4_takes_34 ⟨Nat.zero_le _, Nat.zero_le _⟩) (fun r2 I3 H locs hpo hH => ?_)
        have hq := hq r2 I3 hpo
        obtain ⟨hz, hq⟩ := hq
        exact w_eZ hz hX hr hlk hH hq dX4_takes_37
  · have hq := hq.2 hc
    refine lv_aload_n hx hb dX4_takes_7 rfl (lv_at hl 0 rfl) ?_
    refine lv_iload_n hx hb dX4_takes_8 rfl (lv_at hl 1 rfl) ?_
    obtain ⟨hp, hq⟩ := hq
    refine w_cI hH (w_rV (As := [.int x1]) (rest := []) hX hK hE hH (c_X4_takesFigure hs _ _ hp) ck4 hs q2_37 q2_39 qs4 q1_5 q2_40 hd_X4_takesFigure ⟨Nat.le_of_ble_eq_true rfl, Nat.le_of_ble_eq_true rfl⟩ ⟨rfl, rfl⟩ rfl hl.1 rfl (Nat.le_of_ble_eq_true rfl) dX4_takes_9 ⟨Nat.zero_le _, Nat.zero_le _⟩) (fun r4 I5 H locs hpo hH => ?_)
    have hq := hq r4 I5 hpo
    obtain ⟨hz, hq⟩ := hq
    exact w_eZ hz hX hr hlk hH hq dX4_takes_12
abbrev rm_X4_read : Room := { frames := 5, cells := 0, slots := 0, locals := 109 }
theorem hd_X4_read : yX4_read.cls = RX4 ∧ yX4_read.cls ≠ "java/lang/invoke/MethodHandle" ∧ yX4_read.cls ≠ "java/lang/invoke/VarHandle" ∧ (parseMethodDescriptor yX4_read.desc).map (fun d => d.parameters.length) = some 0 := by decide +kernel
set_option maxRecDepth 100000 in
set_option maxHeartbeats 4000000 in
theorem s_X4_read_83 {k : Nat} {Q : Int32 → wI → Prop} (hs : wSh k = (0, 4)) (C0 : wCx p m c s args meth cX4_read 2 RX4 (some .int) D cs ad b) : ∀ (v1 : Int32) (t0 : Int32) (I : wI) (H : Heap) (locs : List Loc) (ls : Array Slot), v_X4_read_83 k Q v1 t0 I → wH D cs b G I s H locs → lv_has ls 2 [(1, .int v1)] → W p l e rm_X4_read s m args below meth c H locs 0 0 (MQ below (va_Qi (Q) (wPo D cs b G) (fun q => b ≤ q)) args s 0 0 (fun q => b ≤ q)) (F0 m 83 ls [.int t0, .ref (b + k)]) := by
  obtain ⟨hX, hr, hlk, hK, hE⟩ := id C0
  have hx := hX.1
  have hb := hX.2.1
  have hown := hX.2.2.2.1
  have hts := hX.2.2.2.2
  intro v1 t0 I H locs ls hq hH hl
  unfold v_X4_read_83 at hq
  obtain ⟨hz, hq⟩ := hq
  refine w_putz hz hX hK hH ck4 hs 4 fw4_4 q1_112 dX4_read_83 (fun I1 H locs hI hH => ?_)
  have hq := hq I1 hI
  refine lv_iload_n hx hb dX4_read_86 rfl (lv_at hl 0 rfl) ?_
  exact w_eI hX hr hlk hH hq dX4_read_87
set_option maxRecDepth 100000 in
set_option maxHeartbeats 4000000 in
theorem s_X4_read_82 {k : Nat} {Q : Int32 → wI → Prop} (hs : wSh k = (0, 4)) (C0 : wCx p m c s args meth cX4_read 2 RX4 (some .int) D cs ad b) : ∀ (v1 : Int32) (I : wI) (H : Heap) (locs : List Loc) (ls : Array Slot), v_X4_read_82 k Q v1 I → wH D cs b G I s H locs → lv_has ls 2 [(1, .int v1)] → W p l e rm_X4_read s m args below meth c H locs 0 0 (MQ below (va_Qi (Q) (wPo D cs b G) (fun q => b ≤ q)) args s 0 0 (fun q => b ≤ q)) (F0 m 82 ls [.ref (b + k)]) := by
  obtain ⟨hX, hr, hlk, hK, hE⟩ := id C0
  have hx := hX.1
  have hb := hX.2.1
  have hown := hX.2.2.2.1
  have hts := hX.2.2.2.2
  intro v1 I H locs ls hq hH hl
  unfold v_X4_read_82 at hq
  refine lv_iconst (v := 0) hx hb dX4_read_82 (by decide) ?_
  exact s_X4_read_83 hs C0  v1 (0 : Int32) _ _ _ _ hq hH (lv_sub hl [0] rfl)
set_option maxRecDepth 100000 in
set_option maxHeartbeats 4000000 in
theorem s_X4_read_48 {k : Nat} {Q : Int32 → wI → Prop} (hs : wSh k = (0, 4)) (C0 : wCx p m c s args meth cX4_read 2 RX4 (some .int) D cs ad b) : ∀ (v1 : Int32) (I : wI) (H : Heap) (locs : List Loc) (ls : Array Slot), v_X4_read_48 k Q v1 I → wH D cs b G I s H locs → lv_has ls 2 [(0, .ref (b + k)), (1, .int v1)] → W p l e rm_X4_read s m args below meth c H locs 0 0 (MQ below (va_Qi (Q) (wPo D cs b G) (fun q => b ≤ q)) args s 0 0 (fun q => b ≤ q)) (F0 m 48 ls []) := by
  obtain ⟨hX, hr, hlk, hK, hE⟩ := id C0
  have hx := hX.1
  have hb := hX.2.1
  have hown := hX.2.2.2.1
  have hts := hX.2.2.2.2
  intro v1 I H locs ls hq hH hl
  unfold v_X4_read_48 at hq
  refine lv_aload_n hx hb dX4_read_48 rfl (lv_at hl 0 rfl) ?_
  refine lv_iload_n hx hb dX4_read_49 rfl (lv_at hl 1 rfl) ?_
  refine lv_aload_n hx hb dX4_read_50 rfl (lv_at hl 0 rfl) ?_
  refine w_geti hX hK hH ck4 hs 1 fi4_1 q1_107 dX4_read_51 ?_
  refine lv_icmp_ne (tgt := 82) hx hb dX4_read_54 (by decide) (fun hc => ?_) (fun hc => ?_)
  · have hq := hq.1 hc
    exact s_X4_read_82 hs C0  v1 _ _ _ _ hq hH (lv_sub hl [1] rfl)
  · have hq := hq.2 hc
    refine lv_aload_n hx hb dX4_read_57 rfl (lv_at hl 0 rfl) ?_
    refine w_geti hX hK hH ck4 hs 8 fi4_8 q1_117 dX4_read_58 ?_
    refine lv_if_ne (tgt := 82) hx hb dX4_read_61 (by decide) (fun hc => ?_) (fun hc => ?_)
    · have hq := hq.1 hc
      exact s_X4_read_82 hs C0  v1 _ _ _ _ hq hH (lv_sub hl [1] rfl)
    · have hq := hq.2 hc
      refine lv_aload_n hx hb dX4_read_64 rfl (lv_at hl 0 rfl) ?_
      refine w_geti hX hK hH ck4 hs 9 fi4_9 q1_118 dX4_read_65 ?_
      refine lv_if_eq (tgt := 82) hx hb dX4_read_68 (by decide) (fun hc => ?_) (fun hc => ?_)
      · have hq := hq.1 hc
        exact s_X4_read_82 hs C0  v1 _ _ _ _ hq hH (lv_sub hl [1] rfl)
      · have hq := hq.2 hc
        refine lv_aload_n hx hb dX4_read_71 rfl (lv_at hl 0 rfl) ?_
        refine w_geti hX hK hH ck4 hs 10 fi4_10 q1_119 dX4_read_72 ?_
        refine lv_if_ne (tgt := 82) hx hb dX4_read_75 (by decide) (fun hc => ?_) (fun hc => ?_)
        · have hq := hq.1 hc
          exact s_X4_read_82 hs C0  v1 _ _ _ _ hq hH (lv_sub hl [1] rfl)
        · have hq := hq.2 hc
          refine lv_iconst (v := 1) hx hb dX4_read_78 (by decide) ?_
          refine lv_goto (tgt := 83) hx hb dX4_read_79 (by decide) ?_
          exact s_X4_read_83 hs C0  v1 (1 : Int32) _ _ _ _ hq hH (lv_sub hl [1] rfl)
set_option maxRecDepth 100000 in
set_option maxHeartbeats 4000000 in
theorem s_X4_read_22 {k : Nat} {Q : Int32 → wI → Prop} (hs : wSh k = (0, 4)) (C0 : wCx p m c s args meth cX4_read 2 RX4 (some .int) D cs ad b) : ∀ (f : Nat) (v1 : Int32) (I : wI) (H : Heap) (locs : List Loc) (ls : Array Slot), v_X4_read_22 k Q f v1 I → wH D cs b G I s H locs → lv_has ls 2 [(0, .ref (b + k)), (1, .int v1)] → W p l e rm_X4_read s m args below meth c H locs 0 0 (MQ below (va_Qi (Q) (wPo D cs b G) (fun q => b ≤ q)) args s 0 0 (fun q => b ≤ q)) (F0 m 22 ls []) := by
  obtain ⟨hX, hr, hlk, hK, hE⟩ := id C0
  have hx := hX.1
  have hb := hX.2.1
  have hown := hX.2.2.2.1
  have hts := hX.2.2.2.2
  intro f
  induction f with
  | zero =>
    intro v1 I H locs ls hq
    exact hq.elim
  | succ f hK22 =>
    intro v1 I H locs ls hq hH hl
    have hq : g_X4_read_22 k Q (v_X4_read_22 k Q f) v1 I := hq
    unfold g_X4_read_22 at hq
    refine lv_iload_n hx hb dX4_read_22 rfl (lv_at hl 1 rfl) ?_
    refine lv_aload_n hx hb dX4_read_23 rfl (lv_at hl 0 rfl) ?_
    refine w_geti hX hK hH ck4 hs 1 fi4_1 q1_107 dX4_read_24 ?_
    refine lv_icmp_ge (tgt := 48) hx hb dX4_read_27 (by decide) (fun hc => ?_) (fun hc => ?_)
    · have hq := hq.1 hc
      exact s_X4_read_48 hs C0  v1 _ _ _ _ hq hH (lv_sub hl [0, 1] rfl)
    · have hq := hq.2 hc
      refine lv_aload_n hx hb dX4_read_30 rfl (lv_at hl 0 rfl) ?_
      refine lv_aload_n hx hb dX4_read_31 rfl (lv_at hl 0 rfl) ?_
      refine lv_iload_n hx hb dX4_read_32 rfl (lv_at hl 1 rfl) ?_
      obtain ⟨hp, hq⟩ := hq
      refine w_cIp hH (w_rV (As := [.int v1]) (rest := [.ref (b + k)]) hX hK hE hH (c_X4_signAt hs _ _ hp) ck4 hs q2_29 q2_30 q2_31 q1_5 q2_32 hd_X4_signAt ⟨Nat.le_of_ble_eq_true rfl, Nat.le_of_ble_eq_true rfl⟩ ⟨rfl, rfl⟩ rfl hl.1 rfl (Nat.le_of_ble_eq_true rfl) dX4_read_33 ⟨Nat.zero_le _, Nat.zero_le _⟩) (fun r1  H locs hpo hH => ?_)
      have hq := hq r1  hpo
      obtain ⟨hp, hq⟩ := hq
      refine w_cI hH (w_rV (As := [.int r1]) (rest := []) hX hK hE hH (c_X4_takes hs _ _ hp) ck4 hs q2_33 q2_35 qs3 q1_5 q2_36 hd_X4_takes ⟨Nat.le_of_ble_eq_true rfl, Nat.le_of_ble_eq_true rfl⟩ ⟨rfl, rfl⟩ rfl hl.1 rfl (Nat.le_of_ble_eq_true rfl) dX4_read_36 ⟨Nat.zero_le _, Nat.zero_le _⟩) (fun r2 I3 H locs hpo hH => ?_)
      have hq := hq r2 I3 hpo
      refine lv_if_eq (tgt := 48) hx hb dX4_read_39 (by decide) (fun hc => ?_) (fun hc => ?_)
      · have hq := hq.1 hc
        exact s_X4_read_48 hs C0  v1 _ _ _ _ hq hH (lv_sub hl [0, 1] rfl)
      · have hq := hq.2 hc
        refine lv_iinc (v := (v1 + (1 : Int32))) (lv' := [(1, .int (v1 + (1 : Int32))), (0, .ref (b + k))]) hx hb dX4_read_42 hl (k := 1) rfl rfl (by decide) rfl (fun ls hl => ?_)
        refine lv_goto (tgt := 22) hx hb dX4_read_45 (by decide) ?_
        exact hK22 (v1 + (1 : Int32)) _ _ _ _ hq hH (lv_sub hl [1, 0] rfl)
set_option maxRecDepth 100000 in
set_option maxHeartbeats 4000000 in
theorem c_X4_read {l : Launch} {D : va_G} {cs : wC4} {ad : Nat → Nat} {b : Nat} {G : wG} {k : Nat} (hs : wSh k = (0, 4))  (I : wI) (hp : pre_X4_read k I) : Met l yX4_read (ws_ yX4_read cX4_read 2 (some .int)) rm_X4_read (va_Pc [.ref (b + k)] (wPr D cs ad b G I)) (va_Qi (fun r I' => post_X4_read k I r I') (wPo D cs b G) (fun q => b ≤ q)) 0 0 (fun q => b ≤ q) := by
  have hq := vc_X4_read k hs I hp
  refine w_met (by decide) (Nat.le_of_ble_eq_true rfl) ?_
  intro p e s m below meth c hX hr hlk hK hE hH ls hl
  have C0 : wCx p m c s _ meth cX4_read 2 RX4 (some .int) D cs ad b := ⟨hX, hr, hlk, hK, hE⟩
  have hX : CallFix p m c cX4_read 2 s _ lw_all RX4 := hX
  have hx := hX.1
  have hb := hX.2.1
  have hown := hX.2.2.2.1
  have hts := hX.2.2.2.2
  have hl : lv_has ls 2 [(0, .ref (b + k))] := hl
  unfold v_X4_read at hq
  refine lv_aload_n hx hb dX4_read_0 rfl (lv_at hl 0 rfl) ?_
  refine lv_iconst (v := 0) hx hb dX4_read_1 (by decide) ?_
  refine w_puti hX hK hH ck4 hs 3 fw4_3 q1_110 dX4_read_2 (fun I1 H locs hI hH => ?_)
  have hq := hq I1 hI
  refine lv_aload_n hx hb dX4_read_5 rfl (lv_at hl 0 rfl) ?_
  refine lv_iconst (v := 0) hx hb dX4_read_6 (by decide) ?_
  refine w_puti hX hK hH ck4 hs 8 fw4_8 q1_117 dX4_read_7 (fun I2 H locs hI hH => ?_)
  have hq := hq I2 hI
  refine lv_aload_n hx hb dX4_read_10 rfl (lv_at hl 0 rfl) ?_
  refine lv_iconst (v := 0) hx hb dX4_read_11 (by decide) ?_
  refine w_putz (by decide) hX hK hH ck4 hs 9 fw4_9 q1_118 dX4_read_12 (fun I3 H locs hI hH => ?_)
  have hq := hq I3 hI
  refine lv_aload_n hx hb dX4_read_15 rfl (lv_at hl 0 rfl) ?_
  refine lv_iconst (v := 0) hx hb dX4_read_16 (by decide) ?_
  refine w_putz (by decide) hX hK hH ck4 hs 10 fw4_10 q1_119 dX4_read_17 (fun I4 H locs hI hH => ?_)
  have hq := hq I4 hI
  refine lv_iconst (v := 0) hx hb dX4_read_20 (by decide) ?_
  refine lv_istore_n (lv' := [(1, .int (0 : Int32)), (0, .ref (b + k))]) hx hb dX4_read_21 rfl hl (by decide) rfl (fun ls hl => ?_)
  obtain ⟨f, hq⟩ := hq
  exact s_X4_read_22 hs C0  f (0 : Int32) _ _ _ _ hq hH (lv_sub hl [1, 0] rfl)
abbrev rm_X0_reach : Room := { frames := 0, cells := 0, slots := 0, locals := 0 }
theorem hd_X0_reach : yX0_reach.cls = RX0 ∧ yX0_reach.cls ≠ "java/lang/invoke/MethodHandle" ∧ yX0_reach.cls ≠ "java/lang/invoke/VarHandle" ∧ (parseMethodDescriptor yX0_reach.desc).map (fun d => d.parameters.length) = some 0 := by decide +kernel
set_option maxRecDepth 100000 in
set_option maxHeartbeats 4000000 in
theorem s_X0_reach_35 {k : Nat} {I : wI} {Q : Int32 → Prop} {K4 : Int32 → Int32 → Prop} (hs : wSh k = (0, 0)) (C0 : wCx p m c s args meth cX0_reach 3 RX0 (some .int) D cs ad b) (hK4 : ∀ (v1 : Int32) (v2 : Int32) (H : Heap) (locs : List Loc) (ls : Array Slot), K4 v1 v2 → wH D cs b G I s H locs → lv_has ls 3 [(0, .ref (b + k)), (1, .int v1), (2, .int v2)] → W p l e rm_X0_reach s m args below meth c H locs 0 0 (MQ below (va_Qi (fun r I' => I' = I ∧ Q r) (wPo D cs b G) (fun q => b ≤ q)) args s 0 0 (fun q => b ≤ q)) (F0 m 4 ls [])) : ∀ (v1 : Int32) (v2 : Int32) (H : Heap) (locs : List Loc) (ls : Array Slot), v_X0_reach_35 k I Q K4 v1 v2 → wH D cs b G I s H locs → lv_has ls 3 [(0, .ref (b + k)), (1, .int v1), (2, .int v2)] → W p l e rm_X0_reach s m args below meth c H locs 0 0 (MQ below (va_Qi (fun r I' => I' = I ∧ Q r) (wPo D cs b G) (fun q => b ≤ q)) args s 0 0 (fun q => b ≤ q)) (F0 m 35 ls []) := by
  obtain ⟨hX, hr, hlk, hK, hE⟩ := id C0
  have hx := hX.1
  have hb := hX.2.1
  have hown := hX.2.2.2.1
  have hts := hX.2.2.2.2
  intro v1 v2 H locs ls hq hH hl
  unfold v_X0_reach_35 at hq
  refine lv_iinc (v := (v2 + (1 : Int32))) (lv' := [(2, .int (v2 + (1 : Int32))), (0, .ref (b + k)), (1, .int v1)]) hx hb dX0_reach_35 hl (k := 2) rfl rfl (by decide) rfl (fun ls hl => ?_)
  refine lv_goto (tgt := 4) hx hb dX0_reach_38 (by decide) ?_
  exact hK4 v1 (v2 + (1 : Int32)) _ _ _ hq hH (lv_sub hl [1, 2, 0] rfl)
set_option maxRecDepth 100000 in
set_option maxHeartbeats 4000000 in
theorem s_X0_reach_29 {k : Nat} {I : wI} {Q : Int32 → Prop} {K4 : Int32 → Int32 → Prop} (hs : wSh k = (0, 0)) (C0 : wCx p m c s args meth cX0_reach 3 RX0 (some .int) D cs ad b) (hK4 : ∀ (v1 : Int32) (v2 : Int32) (H : Heap) (locs : List Loc) (ls : Array Slot), K4 v1 v2 → wH D cs b G I s H locs → lv_has ls 3 [(0, .ref (b + k)), (1, .int v1), (2, .int v2)] → W p l e rm_X0_reach s m args below meth c H locs 0 0 (MQ below (va_Qi (fun r I' => I' = I ∧ Q r) (wPo D cs b G) (fun q => b ≤ q)) args s 0 0 (fun q => b ≤ q)) (F0 m 4 ls [])) : ∀ (v1 : Int32) (v2 : Int32) (H : Heap) (locs : List Loc) (ls : Array Slot), v_X0_reach_29 k I Q K4 v1 v2 → wH D cs b G I s H locs → lv_has ls 3 [(0, .ref (b + k)), (1, .int v1), (2, .int v2)] → W p l e rm_X0_reach s m args below meth c H locs 0 0 (MQ below (va_Qi (fun r I' => I' = I ∧ Q r) (wPo D cs b G) (fun q => b ≤ q)) args s 0 0 (fun q => b ≤ q)) (F0 m 29 ls []) := by
  obtain ⟨hX, hr, hlk, hK, hE⟩ := id C0
  have hx := hX.1
  have hb := hX.2.1
  have hown := hX.2.2.2.1
  have hts := hX.2.2.2.2
  intro v1 v2 H locs ls hq hH hl
  unfold v_X0_reach_29 at hq
  refine lv_iload_n hx hb dX0_reach_29 rfl (lv_at hl 1 rfl) ?_
  refine lv_iconst (v := 1) hx hb dX0_reach_30 (by decide) ?_
  refine lv_iload_n hx hb dX0_reach_31 rfl (lv_at hl 2 rfl) ?_
  refine lv_ishl hx hb dX0_reach_32 ?_
  refine lv_ior hx hb dX0_reach_33 ?_
  refine lv_istore_n (lv' := [(1, .int (v1 ||| ((1 : Int32) <<< (v2 &&& 31)))), (0, .ref (b + k)), (2, .int v2)]) hx hb dX0_reach_34 rfl hl (by decide) rfl (fun ls hl => ?_)
  exact s_X0_reach_35 hs C0 hK4 (v1 ||| ((1 : Int32) <<< (v2 &&& 31))) v2 _ _ _ hq hH (lv_sub hl [1, 0, 2] rfl)
set_option maxRecDepth 100000 in
set_option maxHeartbeats 4000000 in
theorem s_X0_reach_4 {k : Nat} {I : wI} {Q : Int32 → Prop} (hs : wSh k = (0, 0)) (C0 : wCx p m c s args meth cX0_reach 3 RX0 (some .int) D cs ad b) : ∀ (f : Nat) (v1 : Int32) (v2 : Int32) (H : Heap) (locs : List Loc) (ls : Array Slot), v_X0_reach_4 k I Q f v1 v2 → wH D cs b G I s H locs → lv_has ls 3 [(0, .ref (b + k)), (1, .int v1), (2, .int v2)] → W p l e rm_X0_reach s m args below meth c H locs 0 0 (MQ below (va_Qi (fun r I' => I' = I ∧ Q r) (wPo D cs b G) (fun q => b ≤ q)) args s 0 0 (fun q => b ≤ q)) (F0 m 4 ls []) := by
  obtain ⟨hX, hr, hlk, hK, hE⟩ := id C0
  have hx := hX.1
  have hb := hX.2.1
  have hown := hX.2.2.2.1
  have hts := hX.2.2.2.2
  intro f
  induction f with
  | zero =>
    intro v1 v2 H locs ls hq
    exact hq.elim
  | succ f hK4 =>
    intro v1 v2 H locs ls hq hH hl
    have hq : g_X0_reach_4 k I Q (v_X0_reach_4 k I Q f) v1 v2 := hq
    unfold g_X0_reach_4 at hq
    refine lv_iload_n hx hb dX0_reach_4 rfl (lv_at hl 2 rfl) ?_
    refine lv_bipush (v := 6) hx hb dX0_reach_5 (by decide) ?_
    refine lv_icmp_ge (tgt := 41) hx hb dX0_reach_7 (by decide) (fun hc => ?_) (fun hc => ?_)
    · have hq := hq.1 hc
      refine lv_iload_n hx hb dX0_reach_41 rfl (lv_at hl 1 rfl) ?_
      exact w_eI hX hr hlk hH ⟨rfl, hq⟩ dX0_reach_42
    · have hq := hq.2 hc
      refine lv_aload_n hx hb dX0_reach_10 rfl (lv_at hl 0 rfl) ?_
      refine w_getr hX hK hH ck0 hs 0 1 (k + 1) fr0_0 rfl q1_38 dX0_reach_11 ?_
      refine lv_iload_n hx hb dX0_reach_14 rfl (lv_at hl 2 rfl) ?_
      obtain ⟨hc, hq⟩ := hq
      refine w_iald hX hK hH (sf0_0 hs) hc dX0_reach_15 ?_
      refine lv_iload_n hx hb dX0_reach_16 rfl (lv_at hl 2 rfl) ?_
      refine lv_icmp_ne (tgt := 29) hx hb dX0_reach_17 (by decide) (fun hc => ?_) (fun hc => ?_)
      · have hq := hq.1 hc
        exact s_X0_reach_29 hs C0 hK4 v1 v2 _ _ _ hq hH (lv_sub hl [0, 1, 2] rfl)
      · have hq := hq.2 hc
        refine lv_aload_n hx hb dX0_reach_20 rfl (lv_at hl 0 rfl) ?_
        refine w_getr hX hK hH ck0 hs 1 2 (k + 2) fr0_1 rfl q1_39 dX0_reach_21 ?_
        refine lv_iload_n hx hb dX0_reach_24 rfl (lv_at hl 2 rfl) ?_
        obtain ⟨hc, hq⟩ := hq
        refine w_iald hX hK hH (sf0_1 hs) hc dX0_reach_25 ?_
        refine lv_if_eq (tgt := 35) hx hb dX0_reach_26 (by decide) (fun hc => ?_) (fun hc => ?_)
        · have hq := hq.1 hc
          exact s_X0_reach_35 hs C0 hK4 v1 v2 _ _ _ hq hH (lv_sub hl [0, 1, 2] rfl)
        · have hq := hq.2 hc
          exact s_X0_reach_29 hs C0 hK4 v1 v2 _ _ _ hq hH (lv_sub hl [0, 1, 2] rfl)
set_option maxRecDepth 100000 in
set_option maxHeartbeats 4000000 in
theorem c_X0_reach {l : Launch} {D : va_G} {cs : wC4} {ad : Nat → Nat} {b : Nat} {G : wG} {k : Nat} (hs : wSh k = (0, 0))  (I : wI) (hp : pre_X0_reach k I) : Met l yX0_reach (ws_ yX0_reach cX0_reach 3 (some .int)) rm_X0_reach (va_Pc [.ref (b + k)] (wPr D cs ad b G I)) (va_Qi (fun r I' => I' = I ∧ post_X0_reach k I r) (wPo D cs b G) (fun q => b ≤ q)) 0 0 (fun q => b ≤ q) := by
  have hq := vc_X0_reach k hs I hp
  refine w_met (by decide) (Nat.le_of_ble_eq_true rfl) ?_
  intro p e s m below meth c hX hr hlk hK hE hH ls hl
  have C0 : wCx p m c s _ meth cX0_reach 3 RX0 (some .int) D cs ad b := ⟨hX, hr, hlk, hK, hE⟩
  have hX : CallFix p m c cX0_reach 3 s _ lw_all RX0 := hX
  have hx := hX.1
  have hb := hX.2.1
  have hown := hX.2.2.2.1
  have hts := hX.2.2.2.2
  have hl : lv_has ls 3 [(0, .ref (b + k))] := hl
  unfold v_X0_reach at hq
  refine lv_iconst (v := 0) hx hb dX0_reach_0 (by decide) ?_
  refine lv_istore_n (lv' := [(1, .int (0 : Int32)), (0, .ref (b + k))]) hx hb dX0_reach_1 rfl hl (by decide) rfl (fun ls hl => ?_)
  refine lv_iconst (v := 0) hx hb dX0_reach_2 (by decide) ?_
  refine lv_istore_n (lv' := [(2, .int (0 : Int32)), (1, .int (0 : Int32)), (0, .ref (b + k))]) hx hb dX0_reach_3 rfl hl (by decide) rfl (fun ls hl => ?_)
  obtain ⟨f, hq⟩ := hq
  exact s_X0_reach_4 hs C0  f (0 : Int32) (0 : Int32) _ _ _ hq hH (lv_sub hl [2, 1, 0] rfl)
abbrev rm_X0_bringHome : Room := { frames := 0, cells := 0, slots := 0, locals := 0 }
theorem hd_X0_bringHome : yX0_bringHome.cls = RX0 ∧ yX0_bringHome.cls ≠ "java/lang/invoke/MethodHandle" ∧ yX0_bringHome.cls ≠ "java/lang/invoke/VarHandle" ∧ (parseMethodDescriptor yX0_bringHome.desc).map (fun d => d.parameters.length) = some 0 := by decide +kernel
set_option maxRecDepth 100000 in
set_option maxHeartbeats 4000000 in
theorem s_X0_bringHome_2 {k : Nat} {Q : wI → Prop} (hs : wSh k = (0, 0)) (C0 : wCx p m c s args meth cX0_bringHome 2 RX0 none D cs ad b) : ∀ (f : Nat) (v1 : Int32) (I : wI) (H : Heap) (locs : List Loc) (ls : Array Slot), v_X0_bringHome_2 k Q f v1 I → wH D cs b G I s H locs → lv_has ls 2 [(0, .ref (b + k)), (1, .int v1)] → W p l e rm_X0_bringHome s m args below meth c H locs 0 0 (MQ below (va_Qv (Q) (wPo D cs b G) (fun q => b ≤ q)) args s 0 0 (fun q => b ≤ q)) (F0 m 2 ls []) := by
  obtain ⟨hX, hr, hlk, hK, hE⟩ := id C0
  have hx := hX.1
  have hb := hX.2.1
  have hown := hX.2.2.2.1
  have hts := hX.2.2.2.2
  intro f
  induction f with
  | zero =>
    intro v1 I H locs ls hq
    exact hq.elim
  | succ f hK2 =>
    intro v1 I H locs ls hq hH hl
    have hq : g_X0_bringHome_2 k Q (v_X0_bringHome_2 k Q f) v1 I := hq
    unfold g_X0_bringHome_2 at hq
    refine lv_iload_n hx hb dX0_bringHome_2 rfl (lv_at hl 1 rfl) ?_
    refine lv_bipush (v := 6) hx hb dX0_bringHome_3 (by decide) ?_
    refine lv_icmp_ge (tgt := 28) hx hb dX0_bringHome_5 (by decide) (fun hc => ?_) (fun hc => ?_)
    · have hq := hq.1 hc
      exact w_eV hX hr hlk hH hq dX0_bringHome_28
    · have hq := hq.2 hc
      refine lv_aload_n hx hb dX0_bringHome_8 rfl (lv_at hl 0 rfl) ?_
      refine w_getr hX hK hH ck0 hs 0 1 (k + 1) fr0_0 rfl q1_38 dX0_bringHome_9 ?_
      refine lv_iload_n hx hb dX0_bringHome_12 rfl (lv_at hl 1 rfl) ?_
      refine lv_iload_n hx hb dX0_bringHome_13 rfl (lv_at hl 1 rfl) ?_
      obtain ⟨hc, hq⟩ := hq
      refine w_iast hX hK hH (sf0_0 hs) hc dX0_bringHome_14 (fun I1 H locs hI hH => ?_)
      have hq := hq I1 hI
      refine lv_aload_n hx hb dX0_bringHome_15 rfl (lv_at hl 0 rfl) ?_
      refine w_getr hX hK hH ck0 hs 1 2 (k + 2) fr0_1 rfl q1_39 dX0_bringHome_16 ?_
      refine lv_iload_n hx hb dX0_bringHome_19 rfl (lv_at hl 1 rfl) ?_
      refine lv_iconst (v := 0) hx hb dX0_bringHome_20 (by decide) ?_
      obtain ⟨hc, hq⟩ := hq
      refine w_iast hX hK hH (sf0_1 hs) hc dX0_bringHome_21 (fun I2 H locs hI hH => ?_)
      have hq := hq I2 hI
      refine lv_iinc (v := (v1 + (1 : Int32))) (lv' := [(1, .int (v1 + (1 : Int32))), (0, .ref (b + k))]) hx hb dX0_bringHome_22 hl (k := 1) rfl rfl (by decide) rfl (fun ls hl => ?_)
      refine lv_goto (tgt := 2) hx hb dX0_bringHome_25 (by decide) ?_
      exact hK2 (v1 + (1 : Int32)) _ _ _ _ hq hH (lv_sub hl [1, 0] rfl)
set_option maxRecDepth 100000 in
set_option maxHeartbeats 4000000 in
theorem c_X0_bringHome {l : Launch} {D : va_G} {cs : wC4} {ad : Nat → Nat} {b : Nat} {G : wG} {k : Nat} (hs : wSh k = (0, 0))  (I : wI) (hp : pre_X0_bringHome k I) : Met l yX0_bringHome (ws_ yX0_bringHome cX0_bringHome 2 none) rm_X0_bringHome (va_Pc [.ref (b + k)] (wPr D cs ad b G I)) (va_Qv (fun I' => post_X0_bringHome k I I') (wPo D cs b G) (fun q => b ≤ q)) 0 0 (fun q => b ≤ q) := by
  have hq := vc_X0_bringHome k hs I hp
  refine w_met (by decide) (Nat.le_of_ble_eq_true rfl) ?_
  intro p e s m below meth c hX hr hlk hK hE hH ls hl
  have C0 : wCx p m c s _ meth cX0_bringHome 2 RX0 none D cs ad b := ⟨hX, hr, hlk, hK, hE⟩
  have hX : CallFix p m c cX0_bringHome 2 s _ lw_all RX0 := hX
  have hx := hX.1
  have hb := hX.2.1
  have hown := hX.2.2.2.1
  have hts := hX.2.2.2.2
  have hl : lv_has ls 2 [(0, .ref (b + k))] := hl
  unfold v_X0_bringHome at hq
  refine lv_iconst (v := 0) hx hb dX0_bringHome_0 (by decide) ?_
  refine lv_istore_n (lv' := [(1, .int (0 : Int32)), (0, .ref (b + k))]) hx hb dX0_bringHome_1 rfl hl (by decide) rfl (fun ls hl => ?_)
  obtain ⟨f, hq⟩ := hq
  exact s_X0_bringHome_2 hs C0  f (0 : Int32) _ _ _ _ hq hH (lv_sub hl [1, 0] rfl)
abbrev rm_X1_shape : Room := { frames := 0, cells := 0, slots := 0, locals := 0 }
theorem hd_X1_shape : yX1_shape.cls = RX1 ∧ yX1_shape.cls ≠ "java/lang/invoke/MethodHandle" ∧ yX1_shape.cls ≠ "java/lang/invoke/VarHandle" ∧ (parseMethodDescriptor yX1_shape.desc).map (fun d => d.parameters.length) = some 3 := by decide +kernel
set_option maxRecDepth 100000 in
set_option maxHeartbeats 4000000 in
theorem s_X1_shape_23 {k : Nat} {x1 : Int32} {x2 : Int32} {x3 : Int32} {Q : wI → Prop} (hs : wSh k = (0, 1)) (C0 : wCx p m c s args meth cX1_shape 4 RX1 none D cs ad b) : ∀  (I : wI) (H : Heap) (locs : List Loc) (ls : Array Slot), v_X1_shape_23 k x1 x2 x3 Q  I → wH D cs b G I s H locs → lv_has ls 4 [] → W p l e rm_X1_shape s m args below meth c H locs 0 0 (MQ below (va_Qv (Q) (wPo D cs b G) (fun q => b ≤ q)) args s 0 0 (fun q => b ≤ q)) (F0 m 23 ls []) := by
  obtain ⟨hX, hr, hlk, hK, hE⟩ := id C0
  have hx := hX.1
  have hb := hX.2.1
  have hown := hX.2.2.2.1
  have hts := hX.2.2.2.2
  intro  I H locs ls hq hH hl
  unfold v_X1_shape_23 at hq
  exact w_eV hX hr hlk hH hq dX1_shape_23
set_option maxRecDepth 100000 in
set_option maxHeartbeats 4000000 in
theorem c_X1_shape {l : Launch} {D : va_G} {cs : wC4} {ad : Nat → Nat} {b : Nat} {G : wG} {k : Nat} (hs : wSh k = (0, 1)) (x1 : Int32) (x2 : Int32) (x3 : Int32) (I : wI) (hp : pre_X1_shape k x1 x2 x3 I) : Met l yX1_shape (ws_ yX1_shape cX1_shape 4 none) rm_X1_shape (va_Pc [.ref (b + k), .int x1, .int x2, .int x3] (wPr D cs ad b G I)) (va_Qv (fun I' => post_X1_shape k x1 x2 x3 I I') (wPo D cs b G) (fun q => b ≤ q)) 0 0 (fun q => b ≤ q) := by
  have hq := vc_X1_shape k x1 x2 x3 hs I hp
  refine w_met (by decide) (Nat.le_of_ble_eq_true rfl) ?_
  intro p e s m below meth c hX hr hlk hK hE hH ls hl
  have C0 : wCx p m c s _ meth cX1_shape 4 RX1 none D cs ad b := ⟨hX, hr, hlk, hK, hE⟩
  have hX : CallFix p m c cX1_shape 4 s _ lw_all RX1 := hX
  have hx := hX.1
  have hb := hX.2.1
  have hown := hX.2.2.2.1
  have hts := hX.2.2.2.2
  have hl : lv_has ls 4 [(0, .ref (b + k)), (1, .int x1), (2, .int x2), (3, .int x3)] := hl
  unfold v_X1_shape at hq
  refine lv_iload_n hx hb dX1_shape_0 rfl (lv_at hl 1 rfl) ?_
  refine lv_if_lt (tgt := 23) hx hb dX1_shape_1 (by decide) (fun hc => ?_) (fun hc => ?_)
  · have hq := hq.1 hc
    exact s_X1_shape_23 hs C0   _ _ _ _ hq hH (lv_sub hl [] rfl)
  · have hq := hq.2 hc
    refine lv_iload_n hx hb dX1_shape_4 rfl (lv_at hl 1 rfl) ?_
    refine lv_iconst (v := 5) hx hb dX1_shape_5 (by decide) ?_
    refine lv_icmp_ge (tgt := 23) hx hb dX1_shape_6 (by decide) (fun hc => ?_) (fun hc => ?_)
    · have hq := hq.1 hc
      exact s_X1_shape_23 hs C0   _ _ _ _ hq hH (lv_sub hl [] rfl)
    · have hq := hq.2 hc
      refine lv_aload_n hx hb dX1_shape_9 rfl (lv_at hl 0 rfl) ?_
      refine w_getr hX hK hH ck1 hs 0 1 (k + 1) fr1_0 rfl q1_52 dX1_shape_10 ?_
      refine lv_iload_n hx hb dX1_shape_13 rfl (lv_at hl 1 rfl) ?_
      refine lv_iload_n hx hb dX1_shape_14 rfl (lv_at hl 2 rfl) ?_
      obtain ⟨hc, hq⟩ := hq
      refine w_iast hX hK hH (sf1_0 hs) hc dX1_shape_15 (fun I1 H locs hI hH => ?_)
      have hq := hq I1 hI
      refine lv_aload_n hx hb dX1_shape_16 rfl (lv_at hl 0 rfl) ?_
      refine w_getr hX hK hH ck1 hs 1 2 (k + 2) fr1_1 rfl q1_53 dX1_shape_17 ?_
      refine lv_iload_n hx hb dX1_shape_20 rfl (lv_at hl 1 rfl) ?_
      refine lv_iload_n hx hb dX1_shape_21 rfl (lv_at hl 3 rfl) ?_
      obtain ⟨hc, hq⟩ := hq
      refine w_iast hX hK hH (sf1_1 hs) hc dX1_shape_22 (fun I2 H locs hI hH => ?_)
      have hq := hq I2 hI
      exact s_X1_shape_23 hs C0   _ _ _ _ hq hH (lv_sub hl [] rfl)
abbrev rm_X3_stuckKeys : Room := { frames := 2, cells := 0, slots := 0, locals := 42 }
theorem hd_X3_stuckKeys : yX3_stuckKeys.cls = RX3 ∧ yX3_stuckKeys.cls ≠ "java/lang/invoke/MethodHandle" ∧ yX3_stuckKeys.cls ≠ "java/lang/invoke/VarHandle" ∧ (parseMethodDescriptor yX3_stuckKeys.desc).map (fun d => d.parameters.length) = some 0 := by decide +kernel
set_option maxRecDepth 100000 in
set_option maxHeartbeats 4000000 in
theorem s_X3_stuckKeys_20 {k : Nat} {I : wI} {Q : Int32 → Prop} {K4 : Int32 → Int32 → Prop} (hs : wSh k = (0, 3)) (C0 : wCx p m c s args meth cX3_stuckKeys 3 RX3 (some .int) D cs ad b) (hK4 : ∀ (v1 : Int32) (v2 : Int32) (H : Heap) (locs : List Loc) (ls : Array Slot), K4 v1 v2 → wH D cs b G I s H locs → lv_has ls 3 [(0, .ref (b + k)), (1, .int v1), (2, .int v2)] → W p l e rm_X3_stuckKeys s m args below meth c H locs 0 0 (MQ below (va_Qi (fun r I' => I' = I ∧ Q r) (wPo D cs b G) (fun q => b ≤ q)) args s 0 0 (fun q => b ≤ q)) (F0 m 4 ls [])) : ∀ (v1 : Int32) (v2 : Int32) (H : Heap) (locs : List Loc) (ls : Array Slot), v_X3_stuckKeys_20 k I Q K4 v1 v2 → wH D cs b G I s H locs → lv_has ls 3 [(0, .ref (b + k)), (1, .int v1), (2, .int v2)] → W p l e rm_X3_stuckKeys s m args below meth c H locs 0 0 (MQ below (va_Qi (fun r I' => I' = I ∧ Q r) (wPo D cs b G) (fun q => b ≤ q)) args s 0 0 (fun q => b ≤ q)) (F0 m 20 ls []) := by
  obtain ⟨hX, hr, hlk, hK, hE⟩ := id C0
  have hx := hX.1
  have hb := hX.2.1
  have hown := hX.2.2.2.1
  have hts := hX.2.2.2.2
  intro v1 v2 H locs ls hq hH hl
  unfold v_X3_stuckKeys_20 at hq
  refine lv_iinc (v := (v2 + (1 : Int32))) (lv' := [(2, .int (v2 + (1 : Int32))), (0, .ref (b + k)), (1, .int v1)]) hx hb dX3_stuckKeys_20 hl (k := 2) rfl rfl (by decide) rfl (fun ls hl => ?_)
  refine lv_goto (tgt := 4) hx hb dX3_stuckKeys_23 (by decide) ?_
  exact hK4 v1 (v2 + (1 : Int32)) _ _ _ hq hH (lv_sub hl [1, 2, 0] rfl)
set_option maxRecDepth 100000 in
set_option maxHeartbeats 4000000 in
theorem s_X3_stuckKeys_4 {k : Nat} {I : wI} {Q : Int32 → Prop} (hs : wSh k = (0, 3)) (C0 : wCx p m c s args meth cX3_stuckKeys 3 RX3 (some .int) D cs ad b) : ∀ (f : Nat) (v1 : Int32) (v2 : Int32) (H : Heap) (locs : List Loc) (ls : Array Slot), v_X3_stuckKeys_4 k I Q f v1 v2 → wH D cs b G I s H locs → lv_has ls 3 [(0, .ref (b + k)), (1, .int v1), (2, .int v2)] → W p l e rm_X3_stuckKeys s m args below meth c H locs 0 0 (MQ below (va_Qi (fun r I' => I' = I ∧ Q r) (wPo D cs b G) (fun q => b ≤ q)) args s 0 0 (fun q => b ≤ q)) (F0 m 4 ls []) := by
  obtain ⟨hX, hr, hlk, hK, hE⟩ := id C0
  have hx := hX.1
  have hb := hX.2.1
  have hown := hX.2.2.2.1
  have hts := hX.2.2.2.2
  intro f
  induction f with
  | zero =>
    intro v1 v2 H locs ls hq
    exact hq.elim
  | succ f hK4 =>
    intro v1 v2 H locs ls hq hH hl
    have hq : g_X3_stuckKeys_4 k I Q (v_X3_stuckKeys_4 k I Q f) v1 v2 := hq
    unfold g_X3_stuckKeys_4 at hq
    refine lv_iload_n hx hb dX3_stuckKeys_4 rfl (lv_at hl 2 rfl) ?_
    refine lv_iconst (v := 5) hx hb dX3_stuckKeys_5 (by decide) ?_
    refine lv_icmp_ge (tgt := 26) hx hb dX3_stuckKeys_6 (by decide) (fun hc => ?_) (fun hc => ?_)
    · have hq := hq.1 hc
      refine lv_iload_n hx hb dX3_stuckKeys_26 rfl (lv_at hl 1 rfl) ?_
      exact w_eI hX hr hlk hH ⟨rfl, hq⟩ dX3_stuckKeys_27
    · have hq := hq.2 hc
      refine lv_aload_n hx hb dX3_stuckKeys_9 rfl (lv_at hl 0 rfl) ?_
      refine lv_iload_n hx hb dX3_stuckKeys_10 rfl (lv_at hl 2 rfl) ?_
      obtain ⟨hp, hq⟩ := hq
      refine w_cIp hH (w_rV (As := [.int v2]) (rest := []) hX hK hE hH (c_X3_allows hs _ _ hp) ck3 hs q2_148 q2_149 q2_150 q1_2 q2_151 hd_X3_allows ⟨Nat.le_of_ble_eq_true rfl, Nat.le_of_ble_eq_true rfl⟩ ⟨rfl, rfl⟩ rfl hl.1 rfl (Nat.le_of_ble_eq_true rfl) dX3_stuckKeys_11 ⟨Nat.zero_le _, Nat.zero_le _⟩) (fun r1  H locs hpo hH => ?_)
      have hq := hq r1  hpo
      refine lv_if_ne (tgt := 20) hx hb dX3_stuckKeys_14 (by decide) (fun hc => ?_) (fun hc => ?_)
      · have hq := hq.1 hc
        exact s_X3_stuckKeys_20 hs C0 hK4 v1 v2 _ _ _ hq hH (lv_sub hl [0, 1, 2] rfl)
      · have hq := hq.2 hc
        refine lv_iinc (v := (v1 + (1 : Int32))) (lv' := [(1, .int (v1 + (1 : Int32))), (0, .ref (b + k)), (2, .int v2)]) hx hb dX3_stuckKeys_17 hl (k := 1) rfl rfl (by decide) rfl (fun ls hl => ?_)
        exact s_X3_stuckKeys_20 hs C0 hK4 (v1 + (1 : Int32)) v2 _ _ _ hq hH (lv_sub hl [1, 0, 2] rfl)
set_option maxRecDepth 100000 in
set_option maxHeartbeats 4000000 in
theorem c_X3_stuckKeys {l : Launch} {D : va_G} {cs : wC4} {ad : Nat → Nat} {b : Nat} {G : wG} {k : Nat} (hs : wSh k = (0, 3))  (I : wI) (hp : pre_X3_stuckKeys k I) : Met l yX3_stuckKeys (ws_ yX3_stuckKeys cX3_stuckKeys 3 (some .int)) rm_X3_stuckKeys (va_Pc [.ref (b + k)] (wPr D cs ad b G I)) (va_Qi (fun r I' => I' = I ∧ post_X3_stuckKeys k I r) (wPo D cs b G) (fun q => b ≤ q)) 0 0 (fun q => b ≤ q) := by
  have hq := vc_X3_stuckKeys k hs I hp
  refine w_met (by decide) (Nat.le_of_ble_eq_true rfl) ?_
  intro p e s m below meth c hX hr hlk hK hE hH ls hl
  have C0 : wCx p m c s _ meth cX3_stuckKeys 3 RX3 (some .int) D cs ad b := ⟨hX, hr, hlk, hK, hE⟩
  have hX : CallFix p m c cX3_stuckKeys 3 s _ lw_all RX3 := hX
  have hx := hX.1
  have hb := hX.2.1
  have hown := hX.2.2.2.1
  have hts := hX.2.2.2.2
  have hl : lv_has ls 3 [(0, .ref (b + k))] := hl
  unfold v_X3_stuckKeys at hq
  refine lv_iconst (v := 0) hx hb dX3_stuckKeys_0 (by decide) ?_
  refine lv_istore_n (lv' := [(1, .int (0 : Int32)), (0, .ref (b + k))]) hx hb dX3_stuckKeys_1 rfl hl (by decide) rfl (fun ls hl => ?_)
  refine lv_iconst (v := 0) hx hb dX3_stuckKeys_2 (by decide) ?_
  refine lv_istore_n (lv' := [(2, .int (0 : Int32)), (1, .int (0 : Int32)), (0, .ref (b + k))]) hx hb dX3_stuckKeys_3 rfl hl (by decide) rfl (fun ls hl => ?_)
  obtain ⟨f, hq⟩ := hq
  exact s_X3_stuckKeys_4 hs C0  f (0 : Int32) (0 : Int32) _ _ _ hq hH (lv_sub hl [2, 1, 0] rfl)
abbrev rm_X0_notchSum : Room := { frames := 0, cells := 0, slots := 0, locals := 0 }
theorem hd_X0_notchSum : yX0_notchSum.cls = RX0 ∧ yX0_notchSum.cls ≠ "java/lang/invoke/MethodHandle" ∧ yX0_notchSum.cls ≠ "java/lang/invoke/VarHandle" ∧ (parseMethodDescriptor yX0_notchSum.desc).map (fun d => d.parameters.length) = some 0 := by decide +kernel
set_option maxRecDepth 100000 in
set_option maxHeartbeats 4000000 in
theorem s_X0_notchSum_4 {k : Nat} {I : wI} {Q : Int32 → Prop} (hs : wSh k = (0, 0)) (C0 : wCx p m c s args meth cX0_notchSum 3 RX0 (some .int) D cs ad b) : ∀ (f : Nat) (v1 : Int32) (v2 : Int32) (H : Heap) (locs : List Loc) (ls : Array Slot), v_X0_notchSum_4 k I Q f v1 v2 → wH D cs b G I s H locs → lv_has ls 3 [(0, .ref (b + k)), (1, .int v1), (2, .int v2)] → W p l e rm_X0_notchSum s m args below meth c H locs 0 0 (MQ below (va_Qi (fun r I' => I' = I ∧ Q r) (wPo D cs b G) (fun q => b ≤ q)) args s 0 0 (fun q => b ≤ q)) (F0 m 4 ls []) := by
  obtain ⟨hX, hr, hlk, hK, hE⟩ := id C0
  have hx := hX.1
  have hb := hX.2.1
  have hown := hX.2.2.2.1
  have hts := hX.2.2.2.2
  intro f
  induction f with
  | zero =>
    intro v1 v2 H locs ls hq
    exact hq.elim
  | succ f hK4 =>
    intro v1 v2 H locs ls hq hH hl
    have hq : g_X0_notchSum_4 k I Q (v_X0_notchSum_4 k I Q f) v1 v2 := hq
    unfold g_X0_notchSum_4 at hq
    refine lv_iload_n hx hb dX0_notchSum_4 rfl (lv_at hl 2 rfl) ?_
    refine lv_bipush (v := 6) hx hb dX0_notchSum_5 (by decide) ?_
    refine lv_icmp_ge (tgt := 25) hx hb dX0_notchSum_7 (by decide) (fun hc => ?_) (fun hc => ?_)
    · have hq := hq.1 hc
      refine lv_iload_n hx hb dX0_notchSum_25 rfl (lv_at hl 1 rfl) ?_
      exact w_eI hX hr hlk hH ⟨rfl, hq⟩ dX0_notchSum_26
    · have hq := hq.2 hc
      refine lv_iload_n hx hb dX0_notchSum_10 rfl (lv_at hl 1 rfl) ?_
      refine lv_aload_n hx hb dX0_notchSum_11 rfl (lv_at hl 0 rfl) ?_
      refine w_getr hX hK hH ck0 hs 1 2 (k + 2) fr0_1 rfl q1_39 dX0_notchSum_12 ?_
      refine lv_iload_n hx hb dX0_notchSum_15 rfl (lv_at hl 2 rfl) ?_
      obtain ⟨hc, hq⟩ := hq
      refine w_iald hX hK hH (sf0_1 hs) hc dX0_notchSum_16 ?_
      refine lv_iadd hx hb dX0_notchSum_17 ?_
      refine lv_istore_n (lv' := [(1, .int (v1 + (I (k + 2) (v2).toNatClampNeg))), (0, .ref (b + k)), (2, .int v2)]) hx hb dX0_notchSum_18 rfl hl (by decide) rfl (fun ls hl => ?_)
      refine lv_iinc (v := (v2 + (1 : Int32))) (lv' := [(2, .int (v2 + (1 : Int32))), (1, .int (v1 + (I (k + 2) (v2).toNatClampNeg))), (0, .ref (b + k))]) hx hb dX0_notchSum_19 hl (k := 2) rfl rfl (by decide) rfl (fun ls hl => ?_)
      refine lv_goto (tgt := 4) hx hb dX0_notchSum_22 (by decide) ?_
      exact hK4 (v1 + (I (k + 2) (v2).toNatClampNeg)) (v2 + (1 : Int32)) _ _ _ hq hH (lv_sub hl [2, 1, 0] rfl)
set_option maxRecDepth 100000 in
set_option maxHeartbeats 4000000 in
theorem c_X0_notchSum {l : Launch} {D : va_G} {cs : wC4} {ad : Nat → Nat} {b : Nat} {G : wG} {k : Nat} (hs : wSh k = (0, 0))  (I : wI) (hp : pre_X0_notchSum k I) : Met l yX0_notchSum (ws_ yX0_notchSum cX0_notchSum 3 (some .int)) rm_X0_notchSum (va_Pc [.ref (b + k)] (wPr D cs ad b G I)) (va_Qi (fun r I' => I' = I ∧ post_X0_notchSum k I r) (wPo D cs b G) (fun q => b ≤ q)) 0 0 (fun q => b ≤ q) := by
  have hq := vc_X0_notchSum k hs I hp
  refine w_met (by decide) (Nat.le_of_ble_eq_true rfl) ?_
  intro p e s m below meth c hX hr hlk hK hE hH ls hl
  have C0 : wCx p m c s _ meth cX0_notchSum 3 RX0 (some .int) D cs ad b := ⟨hX, hr, hlk, hK, hE⟩
  have hX : CallFix p m c cX0_notchSum 3 s _ lw_all RX0 := hX
  have hx := hX.1
  have hb := hX.2.1
  have hown := hX.2.2.2.1
  have hts := hX.2.2.2.2
  have hl : lv_has ls 3 [(0, .ref (b + k))] := hl
  unfold v_X0_notchSum at hq
  refine lv_iconst (v := 0) hx hb dX0_notchSum_0 (by decide) ?_
  refine lv_istore_n (lv' := [(1, .int (0 : Int32)), (0, .ref (b + k))]) hx hb dX0_notchSum_1 rfl hl (by decide) rfl (fun ls hl => ?_)
  refine lv_iconst (v := 0) hx hb dX0_notchSum_2 (by decide) ?_
  refine lv_istore_n (lv' := [(2, .int (0 : Int32)), (1, .int (0 : Int32)), (0, .ref (b + k))]) hx hb dX0_notchSum_3 rfl hl (by decide) rfl (fun ls hl => ?_)
  obtain ⟨f, hq⟩ := hq
  exact s_X0_notchSum_4 hs C0  f (0 : Int32) (0 : Int32) _ _ _ hq hH (lv_sub hl [2, 1, 0] rfl)
abbrev rm_X4_addSign : Room := { frames := 0, cells := 0, slots := 0, locals := 0 }
theorem hd_X4_addSign : yX4_addSign.cls = RX4 ∧ yX4_addSign.cls ≠ "java/lang/invoke/MethodHandle" ∧ yX4_addSign.cls ≠ "java/lang/invoke/VarHandle" ∧ (parseMethodDescriptor yX4_addSign.desc).map (fun d => d.parameters.length) = some 1 := by decide +kernel
set_option maxRecDepth 100000 in
set_option maxHeartbeats 4000000 in
theorem s_X4_addSign_36 {k : Nat} {x1 : Int32} {Q : wI → Prop} (hs : wSh k = (0, 4)) (C0 : wCx p m c s args meth cX4_addSign 2 RX4 none D cs ad b) : ∀  (I : wI) (H : Heap) (locs : List Loc) (ls : Array Slot), v_X4_addSign_36 k x1 Q  I → wH D cs b G I s H locs → lv_has ls 2 [] → W p l e rm_X4_addSign s m args below meth c H locs 0 0 (MQ below (va_Qv (Q) (wPo D cs b G) (fun q => b ≤ q)) args s 0 0 (fun q => b ≤ q)) (F0 m 36 ls []) := by
  obtain ⟨hX, hr, hlk, hK, hE⟩ := id C0
  have hx := hX.1
  have hb := hX.2.1
  have hown := hX.2.2.2.1
  have hts := hX.2.2.2.2
  intro  I H locs ls hq hH hl
  unfold v_X4_addSign_36 at hq
  exact w_eV hX hr hlk hH hq dX4_addSign_36
set_option maxRecDepth 100000 in
set_option maxHeartbeats 4000000 in
theorem c_X4_addSign {l : Launch} {D : va_G} {cs : wC4} {ad : Nat → Nat} {b : Nat} {G : wG} {k : Nat} (hs : wSh k = (0, 4)) (x1 : Int32) (I : wI) (hp : pre_X4_addSign k x1 I) : Met l yX4_addSign (ws_ yX4_addSign cX4_addSign 2 none) rm_X4_addSign (va_Pc [.ref (b + k), .int x1] (wPr D cs ad b G I)) (va_Qv (fun I' => post_X4_addSign k x1 I I') (wPo D cs b G) (fun q => b ≤ q)) 0 0 (fun q => b ≤ q) := by
  have hq := vc_X4_addSign k x1 hs I hp
  refine w_met (by decide) (Nat.le_of_ble_eq_true rfl) ?_
  intro p e s m below meth c hX hr hlk hK hE hH ls hl
  have C0 : wCx p m c s _ meth cX4_addSign 2 RX4 none D cs ad b := ⟨hX, hr, hlk, hK, hE⟩
  have hX : CallFix p m c cX4_addSign 2 s _ lw_all RX4 := hX
  have hx := hX.1
  have hb := hX.2.1
  have hown := hX.2.2.2.1
  have hts := hX.2.2.2.2
  have hl : lv_has ls 2 [(0, .ref (b + k)), (1, .int x1)] := hl
  unfold v_X4_addSign at hq
  refine lv_aload_n hx hb dX4_addSign_0 rfl (lv_at hl 0 rfl) ?_
  refine w_geti hX hK hH ck4 hs 1 fi4_1 q1_107 dX4_addSign_1 ?_
  refine lv_if_lt (tgt := 36) hx hb dX4_addSign_4 (by decide) (fun hc => ?_) (fun hc => ?_)
  · have hq := hq.1 hc
    exact s_X4_addSign_36 hs C0   _ _ _ _ hq hH (lv_sub hl [] rfl)
  · have hq := hq.2 hc
    refine lv_aload_n hx hb dX4_addSign_7 rfl (lv_at hl 0 rfl) ?_
    refine w_geti hX hK hH ck4 hs 1 fi4_1 q1_107 dX4_addSign_8 ?_
    refine lv_bipush (v := 60) hx hb dX4_addSign_11 (by decide) ?_
    refine lv_icmp_ge (tgt := 36) hx hb dX4_addSign_13 (by decide) (fun hc => ?_) (fun hc => ?_)
    · have hq := hq.1 hc
      exact s_X4_addSign_36 hs C0   _ _ _ _ hq hH (lv_sub hl [] rfl)
    · have hq := hq.2 hc
      refine lv_aload_n hx hb dX4_addSign_16 rfl (lv_at hl 0 rfl) ?_
      refine w_getr hX hK hH ck4 hs 0 1 (k + 1) fr4_0 rfl q1_106 dX4_addSign_17 ?_
      refine lv_aload_n hx hb dX4_addSign_20 rfl (lv_at hl 0 rfl) ?_
      refine w_geti hX hK hH ck4 hs 1 fi4_1 q1_107 dX4_addSign_21 ?_
      refine lv_iload_n hx hb dX4_addSign_24 rfl (lv_at hl 1 rfl) ?_
      obtain ⟨hc, hq⟩ := hq
      refine w_cast hX hK hH (sf4_0 hs) hc dX4_addSign_25 (fun I1 H locs hI hH => ?_)
      have hq := hq I1 hI
      refine lv_aload_n hx hb dX4_addSign_26 rfl (lv_at hl 0 rfl) ?_
      refine lv_dup hx hb dX4_addSign_27 rfl ?_
      refine w_geti hX hK hH ck4 hs 1 fi4_1 q1_107 dX4_addSign_28 ?_
      refine lv_iconst (v := 1) hx hb dX4_addSign_31 (by decide) ?_
      refine lv_iadd hx hb dX4_addSign_32 ?_
      refine w_puti hX hK hH ck4 hs 1 fw4_1 q1_107 dX4_addSign_33 (fun I2 H locs hI hH => ?_)
      have hq := hq I2 hI
      exact s_X4_addSign_36 hs C0   _ _ _ _ hq hH (lv_sub hl [] rfl)
abbrev rm_X0_discAt : Room := { frames := 0, cells := 0, slots := 0, locals := 0 }
theorem hd_X0_discAt : yX0_discAt.cls = RX0 ∧ yX0_discAt.cls ≠ "java/lang/invoke/MethodHandle" ∧ yX0_discAt.cls ≠ "java/lang/invoke/VarHandle" ∧ (parseMethodDescriptor yX0_discAt.desc).map (fun d => d.parameters.length) = some 1 := by decide +kernel
set_option maxRecDepth 100000 in
set_option maxHeartbeats 4000000 in
theorem s_X0_discAt_20 {k : Nat} {x1 : Int32} {I : wI} {Q : Int32 → Prop} (hs : wSh k = (0, 0)) (C0 : wCx p m c s args meth cX0_discAt 2 RX0 (some .int) D cs ad b) : ∀ (t0 : Int32) (H : Heap) (locs : List Loc) (ls : Array Slot), v_X0_discAt_20 k x1 I Q t0 → wH D cs b G I s H locs → lv_has ls 2 [] → W p l e rm_X0_discAt s m args below meth c H locs 0 0 (MQ below (va_Qi (fun r I' => I' = I ∧ Q r) (wPo D cs b G) (fun q => b ≤ q)) args s 0 0 (fun q => b ≤ q)) (F0 m 20 ls [.int t0]) := by
  obtain ⟨hX, hr, hlk, hK, hE⟩ := id C0
  have hx := hX.1
  have hb := hX.2.1
  have hown := hX.2.2.2.1
  have hts := hX.2.2.2.2
  intro t0 H locs ls hq hH hl
  unfold v_X0_discAt_20 at hq
  exact w_eI hX hr hlk hH ⟨rfl, hq⟩ dX0_discAt_20
set_option maxRecDepth 100000 in
set_option maxHeartbeats 4000000 in
theorem s_X0_discAt_19 {k : Nat} {x1 : Int32} {I : wI} {Q : Int32 → Prop} (hs : wSh k = (0, 0)) (C0 : wCx p m c s args meth cX0_discAt 2 RX0 (some .int) D cs ad b) : ∀  (H : Heap) (locs : List Loc) (ls : Array Slot), v_X0_discAt_19 k x1 I Q  → wH D cs b G I s H locs → lv_has ls 2 [] → W p l e rm_X0_discAt s m args below meth c H locs 0 0 (MQ below (va_Qi (fun r I' => I' = I ∧ Q r) (wPo D cs b G) (fun q => b ≤ q)) args s 0 0 (fun q => b ≤ q)) (F0 m 19 ls []) := by
  obtain ⟨hX, hr, hlk, hK, hE⟩ := id C0
  have hx := hX.1
  have hb := hX.2.1
  have hown := hX.2.2.2.1
  have hts := hX.2.2.2.2
  intro  H locs ls hq hH hl
  unfold v_X0_discAt_19 at hq
  refine lv_iconst (v := -1) hx hb dX0_discAt_19 (by decide) ?_
  exact s_X0_discAt_20 hs C0  (-1 : Int32) _ _ _ hq hH (lv_sub hl [] rfl)
set_option maxRecDepth 100000 in
set_option maxHeartbeats 4000000 in
theorem c_X0_discAt {l : Launch} {D : va_G} {cs : wC4} {ad : Nat → Nat} {b : Nat} {G : wG} {k : Nat} (hs : wSh k = (0, 0)) (x1 : Int32) (I : wI) (hp : pre_X0_discAt k x1 I) : Met l yX0_discAt (ws_ yX0_discAt cX0_discAt 2 (some .int)) rm_X0_discAt (va_Pc [.ref (b + k), .int x1] (wPr D cs ad b G I)) (va_Qi (fun r I' => I' = I ∧ post_X0_discAt k x1 I r) (wPo D cs b G) (fun q => b ≤ q)) 0 0 (fun q => b ≤ q) := by
  have hq := vc_X0_discAt k x1 hs I hp
  refine w_met (by decide) (Nat.le_of_ble_eq_true rfl) ?_
  intro p e s m below meth c hX hr hlk hK hE hH ls hl
  have C0 : wCx p m c s _ meth cX0_discAt 2 RX0 (some .int) D cs ad b := ⟨hX, hr, hlk, hK, hE⟩
  have hX : CallFix p m c cX0_discAt 2 s _ lw_all RX0 := hX
  have hx := hX.1
  have hb := hX.2.1
  have hown := hX.2.2.2.1
  have hts := hX.2.2.2.2
  have hl : lv_has ls 2 [(0, .ref (b + k)), (1, .int x1)] := hl
  unfold v_X0_discAt at hq
  refine lv_iload_n hx hb dX0_discAt_0 rfl (lv_at hl 1 rfl) ?_
  refine lv_if_lt (tgt := 19) hx hb dX0_discAt_1 (by decide) (fun hc => ?_) (fun hc => ?_)
  · have hq := hq.1 hc
    exact s_X0_discAt_19 hs C0   _ _ _ hq hH (lv_sub hl [] rfl)
  · have hq := hq.2 hc
    refine lv_iload_n hx hb dX0_discAt_4 rfl (lv_at hl 1 rfl) ?_
    refine lv_bipush (v := 6) hx hb dX0_discAt_5 (by decide) ?_
    refine lv_icmp_ge (tgt := 19) hx hb dX0_discAt_7 (by decide) (fun hc => ?_) (fun hc => ?_)
    · have hq := hq.1 hc
      exact s_X0_discAt_19 hs C0   _ _ _ hq hH (lv_sub hl [] rfl)
    · have hq := hq.2 hc
      refine lv_aload_n hx hb dX0_discAt_10 rfl (lv_at hl 0 rfl) ?_
      refine w_getr hX hK hH ck0 hs 0 1 (k + 1) fr0_0 rfl q1_38 dX0_discAt_11 ?_
      refine lv_iload_n hx hb dX0_discAt_14 rfl (lv_at hl 1 rfl) ?_
      obtain ⟨hc, hq⟩ := hq
      refine w_iald hX hK hH (sf0_0 hs) hc dX0_discAt_15 ?_
      refine lv_goto (tgt := 20) hx hb dX0_discAt_16 (by decide) ?_
      exact s_X0_discAt_20 hs C0  (I (k + 1) (x1).toNatClampNeg) _ _ _ hq hH (lv_sub hl [] rfl)
abbrev rm_X0_notchAt : Room := { frames := 0, cells := 0, slots := 0, locals := 0 }
theorem hd_X0_notchAt : yX0_notchAt.cls = RX0 ∧ yX0_notchAt.cls ≠ "java/lang/invoke/MethodHandle" ∧ yX0_notchAt.cls ≠ "java/lang/invoke/VarHandle" ∧ (parseMethodDescriptor yX0_notchAt.desc).map (fun d => d.parameters.length) = some 1 := by decide +kernel
set_option maxRecDepth 100000 in
set_option maxHeartbeats 4000000 in
theorem s_X0_notchAt_20 {k : Nat} {x1 : Int32} {I : wI} {Q : Int32 → Prop} (hs : wSh k = (0, 0)) (C0 : wCx p m c s args meth cX0_notchAt 2 RX0 (some .int) D cs ad b) : ∀ (t0 : Int32) (H : Heap) (locs : List Loc) (ls : Array Slot), v_X0_notchAt_20 k x1 I Q t0 → wH D cs b G I s H locs → lv_has ls 2 [] → W p l e rm_X0_notchAt s m args below meth c H locs 0 0 (MQ below (va_Qi (fun r I' => I' = I ∧ Q r) (wPo D cs b G) (fun q => b ≤ q)) args s 0 0 (fun q => b ≤ q)) (F0 m 20 ls [.int t0]) := by
  obtain ⟨hX, hr, hlk, hK, hE⟩ := id C0
  have hx := hX.1
  have hb := hX.2.1
  have hown := hX.2.2.2.1
  have hts := hX.2.2.2.2
  intro t0 H locs ls hq hH hl
  unfold v_X0_notchAt_20 at hq
  exact w_eI hX hr hlk hH ⟨rfl, hq⟩ dX0_notchAt_20
set_option maxRecDepth 100000 in
set_option maxHeartbeats 4000000 in
theorem s_X0_notchAt_19 {k : Nat} {x1 : Int32} {I : wI} {Q : Int32 → Prop} (hs : wSh k = (0, 0)) (C0 : wCx p m c s args meth cX0_notchAt 2 RX0 (some .int) D cs ad b) : ∀  (H : Heap) (locs : List Loc) (ls : Array Slot), v_X0_notchAt_19 k x1 I Q  → wH D cs b G I s H locs → lv_has ls 2 [] → W p l e rm_X0_notchAt s m args below meth c H locs 0 0 (MQ below (va_Qi (fun r I' => I' = I ∧ Q r) (wPo D cs b G) (fun q => b ≤ q)) args s 0 0 (fun q => b ≤ q)) (F0 m 19 ls []) := by
  obtain ⟨hX, hr, hlk, hK, hE⟩ := id C0
  have hx := hX.1
  have hb := hX.2.1
  have hown := hX.2.2.2.1
  have hts := hX.2.2.2.2
  intro  H locs ls hq hH hl
  unfold v_X0_notchAt_19 at hq
  refine lv_iconst (v := 0) hx hb dX0_notchAt_19 (by decide) ?_
  exact s_X0_notchAt_20 hs C0  (0 : Int32) _ _ _ hq hH (lv_sub hl [] rfl)
set_option maxRecDepth 100000 in
set_option maxHeartbeats 4000000 in
theorem c_X0_notchAt {l : Launch} {D : va_G} {cs : wC4} {ad : Nat → Nat} {b : Nat} {G : wG} {k : Nat} (hs : wSh k = (0, 0)) (x1 : Int32) (I : wI) (hp : pre_X0_notchAt k x1 I) : Met l yX0_notchAt (ws_ yX0_notchAt cX0_notchAt 2 (some .int)) rm_X0_notchAt (va_Pc [.ref (b + k), .int x1] (wPr D cs ad b G I)) (va_Qi (fun r I' => I' = I ∧ post_X0_notchAt k x1 I r) (wPo D cs b G) (fun q => b ≤ q)) 0 0 (fun q => b ≤ q) := by
  have hq := vc_X0_notchAt k x1 hs I hp
  refine w_met (by decide) (Nat.le_of_ble_eq_true rfl) ?_
  intro p e s m below meth c hX hr hlk hK hE hH ls hl
  have C0 : wCx p m c s _ meth cX0_notchAt 2 RX0 (some .int) D cs ad b := ⟨hX, hr, hlk, hK, hE⟩
  have hX : CallFix p m c cX0_notchAt 2 s _ lw_all RX0 := hX
  have hx := hX.1
  have hb := hX.2.1
  have hown := hX.2.2.2.1
  have hts := hX.2.2.2.2
  have hl : lv_has ls 2 [(0, .ref (b + k)), (1, .int x1)] := hl
  unfold v_X0_notchAt at hq
  refine lv_iload_n hx hb dX0_notchAt_0 rfl (lv_at hl 1 rfl) ?_
  refine lv_if_lt (tgt := 19) hx hb dX0_notchAt_1 (by decide) (fun hc => ?_) (fun hc => ?_)
  · have hq := hq.1 hc
    exact s_X0_notchAt_19 hs C0   _ _ _ hq hH (lv_sub hl [] rfl)
  · have hq := hq.2 hc
    refine lv_iload_n hx hb dX0_notchAt_4 rfl (lv_at hl 1 rfl) ?_
    refine lv_bipush (v := 6) hx hb dX0_notchAt_5 (by decide) ?_
    refine lv_icmp_ge (tgt := 19) hx hb dX0_notchAt_7 (by decide) (fun hc => ?_) (fun hc => ?_)
    · have hq := hq.1 hc
      exact s_X0_notchAt_19 hs C0   _ _ _ hq hH (lv_sub hl [] rfl)
    · have hq := hq.2 hc
      refine lv_aload_n hx hb dX0_notchAt_10 rfl (lv_at hl 0 rfl) ?_
      refine w_getr hX hK hH ck0 hs 1 2 (k + 2) fr0_1 rfl q1_39 dX0_notchAt_11 ?_
      refine lv_iload_n hx hb dX0_notchAt_14 rfl (lv_at hl 1 rfl) ?_
      obtain ⟨hc, hq⟩ := hq
      refine w_iald hX hK hH (sf0_1 hs) hc dX0_notchAt_15 ?_
      refine lv_goto (tgt := 20) hx hb dX0_notchAt_16 (by decide) ?_
      exact s_X0_notchAt_20 hs C0  (I (k + 2) (x1).toNatClampNeg) _ _ _ hq hH (lv_sub hl [] rfl)
abbrev rm_X0_agreesAt : Room := { frames := 1, cells := 0, slots := 0, locals := 21 }
theorem hd_X0_agreesAt : yX0_agreesAt.cls = RX0 ∧ yX0_agreesAt.cls ≠ "java/lang/invoke/MethodHandle" ∧ yX0_agreesAt.cls ≠ "java/lang/invoke/VarHandle" ∧ (parseMethodDescriptor yX0_agreesAt.desc).map (fun d => d.parameters.length) = some 2 := by decide +kernel
set_option maxRecDepth 100000 in
set_option maxHeartbeats 4000000 in
theorem s_X0_agreesAt_31 {k : Nat} {k1 : Nat} {x2 : Int32} {I : wI} {Q : Int32 → Prop} (hs : wSh k = (0, 0)) (hs1 : wSh k1 = (0, 0)) (C0 : wCx p m c s args meth cX0_agreesAt 3 RX0 (some .boolean) D cs ad b) : ∀ (t0 : Int32) (H : Heap) (locs : List Loc) (ls : Array Slot), v_X0_agreesAt_31 k k1 x2 I Q t0 → wH D cs b G I s H locs → lv_has ls 3 [] → W p l e rm_X0_agreesAt s m args below meth c H locs 0 0 (MQ below (va_Qi (fun r I' => I' = I ∧ Q r) (wPo D cs b G) (fun q => b ≤ q)) args s 0 0 (fun q => b ≤ q)) (F0 m 31 ls [.int t0]) := by
  obtain ⟨hX, hr, hlk, hK, hE⟩ := id C0
  have hx := hX.1
  have hb := hX.2.1
  have hown := hX.2.2.2.1
  have hts := hX.2.2.2.2
  intro t0 H locs ls hq hH hl
  unfold v_X0_agreesAt_31 at hq
  obtain ⟨hz, hq⟩ := hq
  exact w_eZ hz hX hr hlk hH ⟨rfl, hq⟩ dX0_agreesAt_31
set_option maxRecDepth 100000 in
set_option maxHeartbeats 4000000 in
theorem s_X0_agreesAt_30 {k : Nat} {k1 : Nat} {x2 : Int32} {I : wI} {Q : Int32 → Prop} (hs : wSh k = (0, 0)) (hs1 : wSh k1 = (0, 0)) (C0 : wCx p m c s args meth cX0_agreesAt 3 RX0 (some .boolean) D cs ad b) : ∀  (H : Heap) (locs : List Loc) (ls : Array Slot), v_X0_agreesAt_30 k k1 x2 I Q  → wH D cs b G I s H locs → lv_has ls 3 [] → W p l e rm_X0_agreesAt s m args below meth c H locs 0 0 (MQ below (va_Qi (fun r I' => I' = I ∧ Q r) (wPo D cs b G) (fun q => b ≤ q)) args s 0 0 (fun q => b ≤ q)) (F0 m 30 ls []) := by
  obtain ⟨hX, hr, hlk, hK, hE⟩ := id C0
  have hx := hX.1
  have hb := hX.2.1
  have hown := hX.2.2.2.1
  have hts := hX.2.2.2.2
  intro  H locs ls hq hH hl
  unfold v_X0_agreesAt_30 at hq
  refine lv_iconst (v := 0) hx hb dX0_agreesAt_30 (by decide) ?_
  exact s_X0_agreesAt_31 hs hs1 C0  (0 : Int32) _ _ _ hq hH (lv_sub hl [] rfl)
set_option maxRecDepth 100000 in
set_option maxHeartbeats 4000000 in
theorem c_X0_agreesAt {l : Launch} {D : va_G} {cs : wC4} {ad : Nat → Nat} {b : Nat} {G : wG} {k : Nat} {k1 : Nat} (hs : wSh k = (0, 0)) (hs1 : wSh k1 = (0, 0)) (x2 : Int32) (I : wI) (hp : pre_X0_agreesAt k k1 x2 I) : Met l yX0_agreesAt (ws_ yX0_agreesAt cX0_agreesAt 3 (some .boolean)) rm_X0_agreesAt (va_Pc [.ref (b + k), .ref (b + k1), .int x2] (wPr D cs ad b G I)) (va_Qi (fun r I' => I' = I ∧ post_X0_agreesAt k k1 x2 I r) (wPo D cs b G) (fun q => b ≤ q)) 0 0 (fun q => b ≤ q) := by
  have hq := vc_X0_agreesAt k k1 x2 hs hs1 I hp
  refine w_met (by decide) (Nat.le_of_ble_eq_true rfl) ?_
  intro p e s m below meth c hX hr hlk hK hE hH ls hl
  have C0 : wCx p m c s _ meth cX0_agreesAt 3 RX0 (some .boolean) D cs ad b := ⟨hX, hr, hlk, hK, hE⟩
  have hX : CallFix p m c cX0_agreesAt 3 s _ lw_all RX0 := hX
  have hx := hX.1
  have hb := hX.2.1
  have hown := hX.2.2.2.1
  have hts := hX.2.2.2.2
  have hl : lv_has ls 3 [(0, .ref (b + k)), (1, .ref (b + k1)), (2, .int x2)] := hl
  unfold v_X0_agreesAt at hq
  refine lv_aload_n hx hb dX0_agreesAt_0 rfl (lv_at hl 0 rfl) ?_
  refine lv_iload_n hx hb dX0_agreesAt_1 rfl (lv_at hl 2 rfl) ?_
  obtain ⟨hp, hq⟩ := hq
  refine w_cIp hH (w_rV (As := [.int x2]) (rest := []) hX hK hE hH (c_X0_discAt hs _ _ hp) ck0 hs q3_25 q3_14 q3_15 q1_3 q3_16 hd_X0_discAt ⟨Nat.le_of_ble_eq_true rfl, Nat.le_of_ble_eq_true rfl⟩ ⟨rfl, rfl⟩ rfl hl.1 rfl (Nat.le_of_ble_eq_true rfl) dX0_agreesAt_2 ⟨Nat.zero_le _, Nat.zero_le _⟩) (fun r1  H locs hpo hH => ?_)
  have hq := hq r1  hpo
  refine lv_aload_n hx hb dX0_agreesAt_5 rfl (lv_at hl 1 rfl) ?_
  refine lv_iload_n hx hb dX0_agreesAt_6 rfl (lv_at hl 2 rfl) ?_
  obtain ⟨hp, hq⟩ := hq
  refine w_cIp hH (w_rV (As := [.int x2]) (rest := [.int r1]) hX hK hE hH (c_X0_discAt hs1 _ _ hp) ck0 hs1 q3_25 q3_14 q3_15 q1_3 q3_16 hd_X0_discAt ⟨Nat.le_of_ble_eq_true rfl, Nat.le_of_ble_eq_true rfl⟩ ⟨rfl, rfl⟩ rfl hl.1 rfl (Nat.le_of_ble_eq_true rfl) dX0_agreesAt_7 ⟨Nat.zero_le _, Nat.zero_le _⟩) (fun r2  H locs hpo hH => ?_)
  have hq := hq r2  hpo
  refine lv_icmp_ne (tgt := 30) hx hb dX0_agreesAt_10 (by decide) (fun hc => ?_) (fun hc => ?_)
  · have hq := hq.1 hc
    exact s_X0_agreesAt_30 hs hs1 C0   _ _ _ hq hH (lv_sub hl [] rfl)
  · have hq := hq.2 hc
    refine lv_aload_n hx hb dX0_agreesAt_13 rfl (lv_at hl 0 rfl) ?_
    refine lv_iload_n hx hb dX0_agreesAt_14 rfl (lv_at hl 2 rfl) ?_
    obtain ⟨hp, hq⟩ := hq
    refine w_cIp hH (w_rV (As := [.int x2]) (rest := []) hX hK hE hH (c_X0_notchAt hs _ _ hp) ck0 hs q3_26 q3_18 q3_19 q1_3 q3_20 hd_X0_notchAt ⟨Nat.le_of_ble_eq_true rfl, Nat.le_of_ble_eq_true rfl⟩ ⟨rfl, rfl⟩ rfl hl.1 rfl (Nat.le_of_ble_eq_true rfl) dX0_agreesAt_15 ⟨Nat.zero_le _, Nat.zero_le _⟩) (fun r3  H locs hpo hH => ?_)
    have hq := hq r3  hpo
    refine lv_aload_n hx hb dX0_agreesAt_18 rfl (lv_at hl 1 rfl) ?_
    refine lv_iload_n hx hb dX0_agreesAt_19 rfl (lv_at hl 2 rfl) ?_
    obtain ⟨hp, hq⟩ := hq
    refine w_cIp hH (w_rV (As := [.int x2]) (rest := [.int r3]) hX hK hE hH (c_X0_notchAt hs1 _ _ hp) ck0 hs1 q3_26 q3_18 q3_19 q1_3 q3_20 hd_X0_notchAt ⟨Nat.le_of_ble_eq_true rfl, Nat.le_of_ble_eq_true rfl⟩ ⟨rfl, rfl⟩ rfl hl.1 rfl (Nat.le_of_ble_eq_true rfl) dX0_agreesAt_20 ⟨Nat.zero_le _, Nat.zero_le _⟩) (fun r4  H locs hpo hH => ?_)
    have hq := hq r4  hpo
    refine lv_icmp_ne (tgt := 30) hx hb dX0_agreesAt_23 (by decide) (fun hc => ?_) (fun hc => ?_)
    · have hq := hq.1 hc
      exact s_X0_agreesAt_30 hs hs1 C0   _ _ _ hq hH (lv_sub hl [] rfl)
    · have hq := hq.2 hc
      refine lv_iconst (v := 1) hx hb dX0_agreesAt_26 (by decide) ?_
      refine lv_goto (tgt := 31) hx hb dX0_agreesAt_27 (by decide) ?_
      exact s_X0_agreesAt_31 hs hs1 C0  (1 : Int32) _ _ _ hq hH (lv_sub hl [] rfl)
abbrev rm_X1_keysAt : Room := { frames := 0, cells := 0, slots := 0, locals := 0 }
theorem hd_X1_keysAt : yX1_keysAt.cls = RX1 ∧ yX1_keysAt.cls ≠ "java/lang/invoke/MethodHandle" ∧ yX1_keysAt.cls ≠ "java/lang/invoke/VarHandle" ∧ (parseMethodDescriptor yX1_keysAt.desc).map (fun d => d.parameters.length) = some 1 := by decide +kernel
set_option maxRecDepth 100000 in
set_option maxHeartbeats 4000000 in
theorem s_X1_keysAt_29 {k : Nat} {x1 : Int32} {I : wI} {Q : Int32 → Prop} {K4 : Int32 → Int32 → Prop} (hs : wSh k = (0, 1)) (C0 : wCx p m c s args meth cX1_keysAt 4 RX1 (some .int) D cs ad b) (hK4 : ∀ (v2 : Int32) (v3 : Int32) (H : Heap) (locs : List Loc) (ls : Array Slot), K4 v2 v3 → wH D cs b G I s H locs → lv_has ls 4 [(0, .ref (b + k)), (1, .int x1), (2, .int v2), (3, .int v3)] → W p l e rm_X1_keysAt s m args below meth c H locs 0 0 (MQ below (va_Qi (fun r I' => I' = I ∧ Q r) (wPo D cs b G) (fun q => b ≤ q)) args s 0 0 (fun q => b ≤ q)) (F0 m 4 ls [])) : ∀ (v2 : Int32) (v3 : Int32) (H : Heap) (locs : List Loc) (ls : Array Slot), v_X1_keysAt_29 k x1 I Q K4 v2 v3 → wH D cs b G I s H locs → lv_has ls 4 [(0, .ref (b + k)), (1, .int x1), (2, .int v2), (3, .int v3)] → W p l e rm_X1_keysAt s m args below meth c H locs 0 0 (MQ below (va_Qi (fun r I' => I' = I ∧ Q r) (wPo D cs b G) (fun q => b ≤ q)) args s 0 0 (fun q => b ≤ q)) (F0 m 29 ls []) := by
  obtain ⟨hX, hr, hlk, hK, hE⟩ := id C0
  have hx := hX.1
  have hb := hX.2.1
  have hown := hX.2.2.2.1
  have hts := hX.2.2.2.2
  intro v2 v3 H locs ls hq hH hl
  unfold v_X1_keysAt_29 at hq
  refine lv_iinc (v := (v3 + (1 : Int32))) (lv' := [(3, .int (v3 + (1 : Int32))), (0, .ref (b + k)), (1, .int x1), (2, .int v2)]) hx hb dX1_keysAt_29 hl (k := 3) rfl rfl (by decide) rfl (fun ls hl => ?_)
  refine lv_goto (tgt := 4) hx hb dX1_keysAt_32 (by decide) ?_
  exact hK4 v2 (v3 + (1 : Int32)) _ _ _ hq hH (lv_sub hl [1, 2, 3, 0] rfl)
set_option maxRecDepth 100000 in
set_option maxHeartbeats 4000000 in
theorem s_X1_keysAt_4 {k : Nat} {x1 : Int32} {I : wI} {Q : Int32 → Prop} (hs : wSh k = (0, 1)) (C0 : wCx p m c s args meth cX1_keysAt 4 RX1 (some .int) D cs ad b) : ∀ (f : Nat) (v2 : Int32) (v3 : Int32) (H : Heap) (locs : List Loc) (ls : Array Slot), v_X1_keysAt_4 k x1 I Q f v2 v3 → wH D cs b G I s H locs → lv_has ls 4 [(0, .ref (b + k)), (1, .int x1), (2, .int v2), (3, .int v3)] → W p l e rm_X1_keysAt s m args below meth c H locs 0 0 (MQ below (va_Qi (fun r I' => I' = I ∧ Q r) (wPo D cs b G) (fun q => b ≤ q)) args s 0 0 (fun q => b ≤ q)) (F0 m 4 ls []) := by
  obtain ⟨hX, hr, hlk, hK, hE⟩ := id C0
  have hx := hX.1
  have hb := hX.2.1
  have hown := hX.2.2.2.1
  have hts := hX.2.2.2.2
  intro f
  induction f with
  | zero =>
    intro v2 v3 H locs ls hq
    exact hq.elim
  | succ f hK4 =>
    intro v2 v3 H locs ls hq hH hl
    have hq : g_X1_keysAt_4 k x1 I Q (v_X1_keysAt_4 k x1 I Q f) v2 v3 := hq
    unfold g_X1_keysAt_4 at hq
    refine lv_iload_n hx hb dX1_keysAt_4 rfl (lv_at hl 3 rfl) ?_
    refine lv_iconst (v := 5) hx hb dX1_keysAt_5 (by decide) ?_
    refine lv_icmp_ge (tgt := 35) hx hb dX1_keysAt_6 (by decide) (fun hc => ?_) (fun hc => ?_)
    · have hq := hq.1 hc
      refine lv_iload_n hx hb dX1_keysAt_35 rfl (lv_at hl 2 rfl) ?_
      exact w_eI hX hr hlk hH ⟨rfl, hq⟩ dX1_keysAt_36
    · have hq := hq.2 hc
      refine lv_aload_n hx hb dX1_keysAt_9 rfl (lv_at hl 0 rfl) ?_
      refine w_getr hX hK hH ck1 hs 0 1 (k + 1) fr1_0 rfl q1_52 dX1_keysAt_10 ?_
      refine lv_iload_n hx hb dX1_keysAt_13 rfl (lv_at hl 3 rfl) ?_
      obtain ⟨hc, hq⟩ := hq
      refine w_iald hX hK hH (sf1_0 hs) hc dX1_keysAt_14 ?_
      refine lv_iload_n hx hb dX1_keysAt_15 rfl (lv_at hl 1 rfl) ?_
      refine lv_ishr hx hb dX1_keysAt_16 ?_
      refine lv_iconst (v := 1) hx hb dX1_keysAt_17 (by decide) ?_
      refine lv_iand hx hb dX1_keysAt_18 ?_
      refine lv_iconst (v := 1) hx hb dX1_keysAt_19 (by decide) ?_
      refine lv_icmp_ne (tgt := 29) hx hb dX1_keysAt_20 (by decide) (fun hc => ?_) (fun hc => ?_)
      · have hq := hq.1 hc
        exact s_X1_keysAt_29 hs C0 hK4 v2 v3 _ _ _ hq hH (lv_sub hl [0, 1, 2, 3] rfl)
      · have hq := hq.2 hc
        refine lv_iload_n hx hb dX1_keysAt_23 rfl (lv_at hl 2 rfl) ?_
        refine lv_iconst (v := 1) hx hb dX1_keysAt_24 (by decide) ?_
        refine lv_iload_n hx hb dX1_keysAt_25 rfl (lv_at hl 3 rfl) ?_
        refine lv_ishl hx hb dX1_keysAt_26 ?_
        refine lv_ior hx hb dX1_keysAt_27 ?_
        refine lv_istore_n (lv' := [(2, .int (v2 ||| ((1 : Int32) <<< (v3 &&& 31)))), (0, .ref (b + k)), (1, .int x1), (3, .int v3)]) hx hb dX1_keysAt_28 rfl hl (by decide) rfl (fun ls hl => ?_)
        exact s_X1_keysAt_29 hs C0 hK4 (v2 ||| ((1 : Int32) <<< (v3 &&& 31))) v3 _ _ _ hq hH (lv_sub hl [1, 2, 0, 3] rfl)
set_option maxRecDepth 100000 in
set_option maxHeartbeats 4000000 in
theorem c_X1_keysAt {l : Launch} {D : va_G} {cs : wC4} {ad : Nat → Nat} {b : Nat} {G : wG} {k : Nat} (hs : wSh k = (0, 1)) (x1 : Int32) (I : wI) (hp : pre_X1_keysAt k x1 I) : Met l yX1_keysAt (ws_ yX1_keysAt cX1_keysAt 4 (some .int)) rm_X1_keysAt (va_Pc [.ref (b + k), .int x1] (wPr D cs ad b G I)) (va_Qi (fun r I' => I' = I ∧ post_X1_keysAt k x1 I r) (wPo D cs b G) (fun q => b ≤ q)) 0 0 (fun q => b ≤ q) := by
  have hq := vc_X1_keysAt k x1 hs I hp
  refine w_met (by decide) (Nat.le_of_ble_eq_true rfl) ?_
  intro p e s m below meth c hX hr hlk hK hE hH ls hl
  have C0 : wCx p m c s _ meth cX1_keysAt 4 RX1 (some .int) D cs ad b := ⟨hX, hr, hlk, hK, hE⟩
  have hX : CallFix p m c cX1_keysAt 4 s _ lw_all RX1 := hX
  have hx := hX.1
  have hb := hX.2.1
  have hown := hX.2.2.2.1
  have hts := hX.2.2.2.2
  have hl : lv_has ls 4 [(0, .ref (b + k)), (1, .int x1)] := hl
  unfold v_X1_keysAt at hq
  refine lv_iconst (v := 0) hx hb dX1_keysAt_0 (by decide) ?_
  refine lv_istore_n (lv' := [(2, .int (0 : Int32)), (0, .ref (b + k)), (1, .int x1)]) hx hb dX1_keysAt_1 rfl hl (by decide) rfl (fun ls hl => ?_)
  refine lv_iconst (v := 0) hx hb dX1_keysAt_2 (by decide) ?_
  refine lv_istore_n (lv' := [(3, .int (0 : Int32)), (2, .int (0 : Int32)), (0, .ref (b + k)), (1, .int x1)]) hx hb dX1_keysAt_3 rfl hl (by decide) rfl (fun ls hl => ?_)
  obtain ⟨f, hq⟩ := hq
  exact s_X1_keysAt_4 hs C0  f (0 : Int32) (0 : Int32) _ _ _ hq hH (lv_sub hl [2, 3, 1, 0] rfl)
abbrev rm_X5_showKey : Room := { frames := 2, cells := 0, slots := 0, locals := 54 }
theorem hd_X5_showKey : yX5_showKey.cls = RX5 ∧ yX5_showKey.cls ≠ "java/lang/invoke/MethodHandle" ∧ yX5_showKey.cls ≠ "java/lang/invoke/VarHandle" ∧ (parseMethodDescriptor yX5_showKey.desc).map (fun d => d.parameters.length) = some 1 := by decide +kernel
set_option maxRecDepth 100000 in
set_option maxHeartbeats 4000000 in
theorem c_X5_showKey {l : Launch} {D : va_G} {cs : wC4} {ad : Nat → Nat} {b : Nat} {G : wG} (x1 : Int32) (I : wI) (hp : pre_X5_showKey x1 I) : Met l yX5_showKey (ws_ yX5_showKey cX5_showKey 2 none) rm_X5_showKey (va_Pc [.ref (b + 0), .int x1] (wPr D cs ad b G I)) (va_Qv (fun I' => post_X5_showKey x1 I I') (wPo D cs b G) (fun q => b ≤ q)) 0 0 (fun q => b ≤ q) := by
  have hq := vc_X5_showKey x1 I hp
  refine w_met (by decide) (Nat.le_of_ble_eq_true rfl) ?_
  intro p e s m below meth c hX hr hlk hK hE hH ls hl
  have C0 : wCx p m c s _ meth cX5_showKey 2 RX5 none D cs ad b := ⟨hX, hr, hlk, hK, hE⟩
  have hX : CallFix p m c cX5_showKey 2 s _ lw_all RX5 := hX
  have hx := hX.1
  have hb := hX.2.1
  have hown := hX.2.2.2.1
  have hts := hX.2.2.2.2
  have hl : lv_has ls 2 [(0, .ref (b + 0)), (1, .int x1)] := hl
  unfold v_X5_showKey at hq
  refine lv_aload_n hx hb dX5_showKey_0 rfl (lv_at hl 0 rfl) ?_
  refine w_getr hX hK hH ck5 sh0 6 30 30 fr5_6 rfl q1_184 dX5_showKey_1 ?_
  obtain ⟨hp, hq⟩ := hq
  refine w_cV hH (w_rV (As := []) (rest := []) hX hK hE hH (c_X0_bringHome (sf5_6 sh0)  _ hp) ck0 (sf5_6 sh0) q2_4 q2_5 q2_6 q1_3 q2_7 hd_X0_bringHome ⟨Nat.le_of_ble_eq_true rfl, Nat.le_of_ble_eq_true rfl⟩ ⟨rfl, rfl⟩ rfl hl.1 rfl (Nat.le_of_ble_eq_true rfl) dX5_showKey_4 ⟨Nat.zero_le _, Nat.zero_le _⟩) (fun  I1 H locs hpo hH => ?_)
  have hq := hq  I1 hpo
  refine lv_aload_n hx hb dX5_showKey_7 rfl (lv_at hl 0 rfl) ?_
  refine w_getr hX hK hH ck5 sh0 0 1 1 fr5_0 rfl q1_178 dX5_showKey_8 ?_
  refine w_getrN hX hK hE hH ck3 (sf5_0 sh0) 1 4 5 fr3_1 rfl qn1_64 dX5_showKey_11 ?_
  refine lv_aload_n hx hb dX5_showKey_14 rfl (lv_at hl 0 rfl) ?_
  refine w_getr hX hK hH ck5 sh0 6 30 30 fr5_6 rfl q1_184 dX5_showKey_15 ?_
  refine lv_iload_n hx hb dX5_showKey_18 rfl (lv_at hl 1 rfl) ?_
  refine lv_iconst (v := 0) hx hb dX5_showKey_19 (by decide) ?_
  obtain ⟨hp, hq⟩ := hq
  refine w_cIp hH (w_rS (As := [.int x1, .int (0 : Int32)]) (rest := [.ref (b + 30), .ref (b + 5)]) hX hK hE hH (c_X5_moveOf  _ _ _ hp) q2_81 q2_54 q1_1 q2_55 hd_X5_moveOf.2 ⟨Nat.le_of_ble_eq_true rfl, Nat.le_of_ble_eq_true rfl⟩ ⟨rfl, rfl⟩ rfl hl.1 rfl (Nat.le_of_ble_eq_true rfl) dX5_showKey_20 ⟨Nat.zero_le _, Nat.zero_le _⟩) (fun r2  H locs hpo hH => ?_)
  have hq := hq r2  hpo
  obtain ⟨hp, hq⟩ := hq
  refine w_cV hH (w_rV (As := [.ref (b + 30), .int r2]) (rest := []) hX hK hE hH (c_X1_move (sf3_1 (sf5_0 sh0)) (sf5_6 sh0) _ _ hp) ck1 (sf3_1 (sf5_0 sh0)) q2_94 q2_95 q2_96 q1_4 q2_97 hd_X1_move ⟨Nat.le_of_ble_eq_true rfl, Nat.le_of_ble_eq_true rfl⟩ ⟨rfl, rfl⟩ rfl hl.1 rfl (Nat.le_of_ble_eq_true rfl) dX5_showKey_23 ⟨Nat.zero_le _, Nat.zero_le _⟩) (fun  I3 H locs hpo hH => ?_)
  have hq := hq  I3 hpo
  exact w_eV hX hr hlk hH hq dX5_showKey_26
abbrev rm_X0_putAhead : Room := { frames := 1, cells := 0, slots := 0, locals := 21 }
theorem hd_X0_putAhead : yX0_putAhead.cls = RX0 ∧ yX0_putAhead.cls ≠ "java/lang/invoke/MethodHandle" ∧ yX0_putAhead.cls ≠ "java/lang/invoke/VarHandle" ∧ (parseMethodDescriptor yX0_putAhead.desc).map (fun d => d.parameters.length) = some 1 := by decide +kernel
set_option maxRecDepth 100000 in
set_option maxHeartbeats 4000000 in
theorem s_X0_putAhead_2 {k : Nat} {k1 : Nat} {Q : wI → Prop} (hs : wSh k = (0, 0)) (hs1 : wSh k1 = (0, 0)) (C0 : wCx p m c s args meth cX0_putAhead 4 RX0 none D cs ad b) : ∀ (f : Nat) (v2 : Int32) (I : wI) (H : Heap) (locs : List Loc) (ls : Array Slot), v_X0_putAhead_2 k k1 Q f v2 I → wH D cs b G I s H locs → lv_has ls 4 [(0, .ref (b + k)), (1, .ref (b + k1)), (2, .int v2)] → W p l e rm_X0_putAhead s m args below meth c H locs 0 0 (MQ below (va_Qv (Q) (wPo D cs b G) (fun q => b ≤ q)) args s 0 0 (fun q => b ≤ q)) (F0 m 2 ls []) := by
  obtain ⟨hX, hr, hlk, hK, hE⟩ := id C0
  have hx := hX.1
  have hb := hX.2.1
  have hown := hX.2.2.2.1
  have hts := hX.2.2.2.2
  intro f
  induction f with
  | zero =>
    intro v2 I H locs ls hq
    exact hq.elim
  | succ f hK2 =>
    intro v2 I H locs ls hq hH hl
    have hq : g_X0_putAhead_2 k k1 Q (v_X0_putAhead_2 k k1 Q f) v2 I := hq
    unfold g_X0_putAhead_2 at hq
    refine lv_iload_n hx hb dX0_putAhead_2 rfl (lv_at hl 2 rfl) ?_
    refine lv_bipush (v := 6) hx hb dX0_putAhead_3 (by decide) ?_
    refine lv_icmp_ge (tgt := 52) hx hb dX0_putAhead_5 (by decide) (fun hc => ?_) (fun hc => ?_)
    · have hq := hq.1 hc
      exact w_eV hX hr hlk hH hq dX0_putAhead_52
    · have hq := hq.2 hc
      refine lv_aload_n hx hb dX0_putAhead_8 rfl (lv_at hl 0 rfl) ?_
      refine w_getr hX hK hH ck0 hs 0 1 (k + 1) fr0_0 rfl q1_38 dX0_putAhead_9 ?_
      refine lv_iload_n hx hb dX0_putAhead_12 rfl (lv_at hl 2 rfl) ?_
      obtain ⟨hc, hq⟩ := hq
      refine w_iald hX hK hH (sf0_0 hs) hc dX0_putAhead_13 ?_
      refine lv_istore_n (lv' := [(3, .int (I (k + 1) (v2).toNatClampNeg)), (0, .ref (b + k)), (1, .ref (b + k1)), (2, .int v2)]) hx hb dX0_putAhead_14 rfl hl (by decide) rfl (fun ls hl => ?_)
      refine lv_aload_n hx hb dX0_putAhead_15 rfl (lv_at hl 1 rfl) ?_
      refine w_getr hX hK hH ck0 hs 0 1 (k + 1) fr0_0 rfl q1_38 dX0_putAhead_16 ?_
      refine lv_iload_n hx hb dX0_putAhead_19 rfl (lv_at hl 3 rfl) ?_
      refine lv_aload_n hx hb dX0_putAhead_20 rfl (lv_at hl 2 rfl) ?_
      refine lv_iload_n hx hb dX0_putAhead_21 rfl (lv_at hl 0 rfl) ?_
      obtain ⟨hp, hq⟩ := hq
      refine w_cIp hH (w_rV (As := [.int (I (k + 1) (v2).toNatClampNeg)]) (rest := [.int v2, .ref (b + (k + 1))]) hX hK hE hH (c_X0_discAt hs1 _ _ hp) ck0 hs1 q3_25 q3_14 q3_15 q1_3 q3_16 hd_X0_discAt ⟨Nat.le_of_ble_eq_true rfl, Nat.le_of_ble_eq_true rfl⟩ ⟨rfl, rfl⟩ rfl hl.1 rfl (Nat.le_of_ble_eq_true rfl) dX0_putAhead_22 ⟨Nat.zero_le _, Nat.zero_le _⟩) (fun r1  H locs hpo hH => ?_)
      have hq := hq r1  hpo
      obtain ⟨hc, hq⟩ := hq
      refine w_iast hX hK hH (sf0_0 hs) hc dX0_putAhead_25 (fun I2 H locs hI hH => ?_)
      have hq := hq I2 hI
      refine lv_aload_n hx hb dX0_putAhead_26 rfl (lv_at hl 1 rfl) ?_
      refine w_getr hX hK hH ck0 hs 1 2 (k + 2) fr0_1 rfl q1_39 dX0_putAhead_27 ?_
      refine lv_iload_n hx hb dX0_putAhead_30 rfl (lv_at hl 3 rfl) ?_
      refine lv_aload_n hx hb dX0_putAhead_31 rfl (lv_at hl 1 rfl) ?_
      refine w_getr hX hK hH ck0 hs 1 2 (k + 2) fr0_1 rfl q1_39 dX0_putAhead_32 ?_
      refine lv_iload_n hx hb dX0_putAhead_35 rfl (lv_at hl 3 rfl) ?_
      obtain ⟨hc, hq⟩ := hq
      refine w_iald hX hK hH (sf0_1 hs) hc dX0_putAhead_36 ?_
      refine lv_aload_n hx hb dX0_putAhead_37 rfl (lv_at hl 2 rfl) ?_
      refine lv_iload_n hx hb dX0_putAhead_38 rfl (lv_at hl 0 rfl) ?_
      obtain ⟨hp, hq⟩ := hq
      refine w_cIp hH (w_rV (As := [.int (I (k + 1) (v2).toNatClampNeg)]) (rest := [.int (I2 (k + 2) (v2).toNatClampNeg), .int v2, .ref (b + (k + 2))]) hX hK hE hH (c_X0_notchAt hs1 _ _ hp) ck0 hs1 q3_26 q3_18 q3_19 q1_3 q3_20 hd_X0_notchAt ⟨Nat.le_of_ble_eq_true rfl, Nat.le_of_ble_eq_true rfl⟩ ⟨rfl, rfl⟩ rfl hl.1 rfl (Nat.le_of_ble_eq_true rfl) dX0_putAhead_39 ⟨Nat.zero_le _, Nat.zero_le _⟩) (fun r3  H locs hpo hH => ?_)
      have hq := hq r3  hpo
      refine lv_iadd hx hb dX0_putAhead_42 ?_
      refine lv_iconst (v := 5) hx hb dX0_putAhead_43 (by decide) ?_
      refine lv_irem hx hb dX0_putAhead_44 (by decide) ?_
      obtain ⟨hc, hq⟩ := hq
      refine w_iast hX hK hH (sf0_1 hs) hc dX0_putAhead_45 (fun I4 H locs hI hH => ?_)
      have hq := hq I4 hI
      refine lv_iinc (v := (v2 + (1 : Int32))) (lv' := [(2, .int (v2 + (1 : Int32))), (3, .int (I (k + 1) (v2).toNatClampNeg)), (0, .ref (b + k)), (1, .ref (b + k1))]) hx hb dX0_putAhead_46 hl (k := 3) rfl rfl (by decide) rfl (fun ls hl => ?_)
      refine lv_goto (tgt := 2) hx hb dX0_putAhead_49 (by decide) ?_
      exact hK2 (v2 + (1 : Int32)) _ _ _ _ hq hH (lv_sub hl [2, 3, 0] rfl)
set_option maxRecDepth 100000 in
set_option maxHeartbeats 4000000 in
theorem c_X0_putAhead {l : Launch} {D : va_G} {cs : wC4} {ad : Nat → Nat} {b : Nat} {G : wG} {k : Nat} {k1 : Nat} (hs : wSh k = (0, 0)) (hs1 : wSh k1 = (0, 0))  (I : wI) (hp : pre_X0_putAhead k k1 I) : Met l yX0_putAhead (ws_ yX0_putAhead cX0_putAhead 4 none) rm_X0_putAhead (va_Pc [.ref (b + k), .ref (b + k1)] (wPr D cs ad b G I)) (va_Qv (fun I' => post_X0_putAhead k k1 I I') (wPo D cs b G) (fun q => b ≤ q)) 0 0 (fun q => b ≤ q) := by
  have hq := vc_X0_putAhead k k1 hs hs1 I hp
  refine w_met (by decide) (Nat.le_of_ble_eq_true rfl) ?_
  intro p e s m below meth c hX hr hlk hK hE hH ls hl
  have C0 : wCx p m c s _ meth cX0_putAhead 4 RX0 none D cs ad b := ⟨hX, hr, hlk, hK, hE⟩
  have hX : CallFix p m c cX0_putAhead 4 s _ lw_all RX0 := hX
  have hx := hX.1
  have hb := hX.2.1
  have hown := hX.2.2.2.1
  have hts := hX.2.2.2.2
  have hl : lv_has ls 4 [(0, .ref (b + k)), (1, .ref (b + k1))] := hl
  unfold v_X0_putAhead at hq
  refine lv_iconst (v := 0) hx hb dX0_putAhead_0 (by decide) ?_
  refine lv_istore_n (lv' := [(2, .int (0 : Int32)), (0, .ref (b + k)), (1, .ref (b + k1))]) hx hb dX0_putAhead_1 rfl hl (by decide) rfl (fun ls hl => ?_)
  obtain ⟨f, hq⟩ := hq
  exact s_X0_putAhead_2 hs hs1 C0  f (0 : Int32) _ _ _ _ hq hH (lv_sub hl [1, 2, 0] rfl)
abbrev rm_X5_periodByDoing : Room := { frames := 2, cells := 0, slots := 0, locals := 44 }
theorem hd_X5_periodByDoing : yX5_periodByDoing.cls = RX5 ∧ yX5_periodByDoing.cls ≠ "java/lang/invoke/MethodHandle" ∧ yX5_periodByDoing.cls ≠ "java/lang/invoke/VarHandle" ∧ (parseMethodDescriptor yX5_periodByDoing.desc).map (fun d => d.parameters.length) = some 0 := by decide +kernel
set_option maxRecDepth 100000 in
set_option maxHeartbeats 4000000 in
theorem s_X5_periodByDoing_47 {Q : Int32 → wI → Prop} (C0 : wCx p m c s args meth cX5_periodByDoing 2 RX5 (some .int) D cs ad b) : ∀ (v1 : Int32) (I : wI) (H : Heap) (locs : List Loc) (ls : Array Slot), v_X5_periodByDoing_47 Q v1 I → wH D cs b G I s H locs → lv_has ls 2 [(1, .int v1)] → W p l e rm_X5_periodByDoing s m args below meth c H locs 0 0 (MQ below (va_Qi (Q) (wPo D cs b G) (fun q => b ≤ q)) args s 0 0 (fun q => b ≤ q)) (F0 m 47 ls []) := by
  obtain ⟨hX, hr, hlk, hK, hE⟩ := id C0
  have hx := hX.1
  have hb := hX.2.1
  have hown := hX.2.2.2.1
  have hts := hX.2.2.2.2
  intro v1 I H locs ls hq hH hl
  unfold v_X5_periodByDoing_47 at hq
  refine lv_iload_n hx hb dX5_periodByDoing_47 rfl (lv_at hl 0 rfl) ?_
  exact w_eI hX hr hlk hH hq dX5_periodByDoing_48
set_option maxRecDepth 100000 in
set_option maxHeartbeats 4000000 in
theorem s_X5_periodByDoing_13 {Q : Int32 → wI → Prop} (C0 : wCx p m c s args meth cX5_periodByDoing 2 RX5 (some .int) D cs ad b) : ∀ (f : Nat) (v1 : Int32) (I : wI) (H : Heap) (locs : List Loc) (ls : Array Slot), v_X5_periodByDoing_13 Q f v1 I → wH D cs b G I s H locs → lv_has ls 2 [(0, .ref (b + 0)), (1, .int v1)] → W p l e rm_X5_periodByDoing s m args below meth c H locs 0 0 (MQ below (va_Qi (Q) (wPo D cs b G) (fun q => b ≤ q)) args s 0 0 (fun q => b ≤ q)) (F0 m 13 ls []) := by
  obtain ⟨hX, hr, hlk, hK, hE⟩ := id C0
  have hx := hX.1
  have hb := hX.2.1
  have hown := hX.2.2.2.1
  have hts := hX.2.2.2.2
  intro f
  induction f with
  | zero =>
    intro v1 I H locs ls hq
    exact hq.elim
  | succ f hK13 =>
    intro v1 I H locs ls hq hH hl
    have hq : g_X5_periodByDoing_13 Q (v_X5_periodByDoing_13 Q f) v1 I := hq
    unfold g_X5_periodByDoing_13 at hq
    refine lv_iload_n hx hb dX5_periodByDoing_13 rfl (lv_at hl 1 rfl) ?_
    refine lv_ldcw hx hb hown (hts _ q3_54) dX5_periodByDoing_14 ?_
    refine lv_icmp_ge (tgt := 47) hx hb dX5_periodByDoing_17 (by decide) (fun hc => ?_) (fun hc => ?_)
    · have hq := hq.1 hc
      exact s_X5_periodByDoing_47  C0  v1 _ _ _ _ hq hH (lv_sub hl [1] rfl)
    · have hq := hq.2 hc
      refine lv_aload_n hx hb dX5_periodByDoing_20 rfl (lv_at hl 0 rfl) ?_
      refine w_getr hX hK hH ck5 sh0 7 33 33 fr5_7 rfl q1_185 dX5_periodByDoing_21 ?_
      obtain ⟨hp, hq⟩ := hq
      refine w_cIp hH (w_rV (As := []) (rest := []) hX hK hE hH (c_X0_reach (sf5_7 sh0)  _ hp) ck0 (sf5_7 sh0) q1_234 q1_235 q1_236 q1_3 q1_237 hd_X0_reach ⟨Nat.le_of_ble_eq_true rfl, Nat.le_of_ble_eq_true rfl⟩ ⟨rfl, rfl⟩ rfl hl.1 rfl (Nat.le_of_ble_eq_true rfl) dX5_periodByDoing_24 ⟨Nat.zero_le _, Nat.zero_le _⟩) (fun r1  H locs hpo hH => ?_)
      have hq := hq r1  hpo
      refine lv_if_eq (tgt := 47) hx hb dX5_periodByDoing_27 (by decide) (fun hc => ?_) (fun hc => ?_)
      · have hq := hq.1 hc
        exact s_X5_periodByDoing_47  C0  v1 _ _ _ _ hq hH (lv_sub hl [1] rfl)
      · have hq := hq.2 hc
        refine lv_aload_n hx hb dX5_periodByDoing_30 rfl (lv_at hl 0 rfl) ?_
        refine w_getr hX hK hH ck5 sh0 7 33 33 fr5_7 rfl q1_185 dX5_periodByDoing_31 ?_
        refine lv_aload_n hx hb dX5_periodByDoing_34 rfl (lv_at hl 0 rfl) ?_
        refine w_getr hX hK hH ck5 sh0 6 30 30 fr5_6 rfl q1_184 dX5_periodByDoing_35 ?_
        obtain ⟨hp, hq⟩ := hq
        refine w_cV hH (w_rV (As := [.ref (b + 30)]) (rest := []) hX hK hE hH (c_X0_putAhead (sf5_7 sh0) (sf5_6 sh0)  _ hp) ck0 (sf5_7 sh0) q3_55 q3_56 q3_57 q1_3 q3_58 hd_X0_putAhead ⟨Nat.le_of_ble_eq_true rfl, Nat.le_of_ble_eq_true rfl⟩ ⟨rfl, rfl⟩ rfl hl.1 rfl (Nat.le_of_ble_eq_true rfl) dX5_periodByDoing_38 ⟨Nat.zero_le _, Nat.zero_le _⟩) (fun  I2 H locs hpo hH => ?_)
        have hq := hq  I2 hpo
        refine lv_iinc (v := (v1 + (1 : Int32))) (lv' := [(1, .int (v1 + (1 : Int32))), (0, .ref (b + 0))]) hx hb dX5_periodByDoing_41 hl (k := 1) rfl rfl (by decide) rfl (fun ls hl => ?_)
        refine lv_goto (tgt := 13) hx hb dX5_periodByDoing_44 (by decide) ?_
        exact hK13 (v1 + (1 : Int32)) _ _ _ _ hq hH (lv_sub hl [1, 0] rfl)
set_option maxRecDepth 100000 in
set_option maxHeartbeats 4000000 in
theorem c_X5_periodByDoing {l : Launch} {D : va_G} {cs : wC4} {ad : Nat → Nat} {b : Nat} {G : wG}  (I : wI) (hp : pre_X5_periodByDoing  I) : Met l yX5_periodByDoing (ws_ yX5_periodByDoing cX5_periodByDoing 2 (some .int)) rm_X5_periodByDoing (va_Pc [.ref (b + 0)] (wPr D cs ad b G I)) (va_Qi (fun r I' => post_X5_periodByDoing  I r I') (wPo D cs b G) (fun q => b ≤ q)) 0 0 (fun q => b ≤ q) := by
  have hq := vc_X5_periodByDoing  I hp
  refine w_met (by decide) (Nat.le_of_ble_eq_true rfl) ?_
  intro p e s m below meth c hX hr hlk hK hE hH ls hl
  have C0 : wCx p m c s _ meth cX5_periodByDoing 2 RX5 (some .int) D cs ad b := ⟨hX, hr, hlk, hK, hE⟩
  have hX : CallFix p m c cX5_periodByDoing 2 s _ lw_all RX5 := hX
  have hx := hX.1
  have hb := hX.2.1
  have hown := hX.2.2.2.1
  have hts := hX.2.2.2.2
  have hl : lv_has ls 2 [(0, .ref (b + 0))] := hl
  unfold v_X5_periodByDoing at hq
  refine lv_aload_n hx hb dX5_periodByDoing_0 rfl (lv_at hl 0 rfl) ?_
  refine w_getr hX hK hH ck5 sh0 7 33 33 fr5_7 rfl q1_185 dX5_periodByDoing_1 ?_
  refine lv_aload_n hx hb dX5_periodByDoing_4 rfl (lv_at hl 0 rfl) ?_
  refine w_getr hX hK hH ck5 sh0 6 30 30 fr5_6 rfl q1_184 dX5_periodByDoing_5 ?_
  obtain ⟨hp, hq⟩ := hq
  refine w_cV hH (w_rV (As := [.ref (b + 30)]) (rest := []) hX hK hE hH (c_X0_copyFrom (sf5_7 sh0) (sf5_6 sh0)  _ hp) ck0 (sf5_7 sh0) q2_12 q1_227 q1_228 q1_3 q1_229 hd_X0_copyFrom ⟨Nat.le_of_ble_eq_true rfl, Nat.le_of_ble_eq_true rfl⟩ ⟨rfl, rfl⟩ rfl hl.1 rfl (Nat.le_of_ble_eq_true rfl) dX5_periodByDoing_8 ⟨Nat.zero_le _, Nat.zero_le _⟩) (fun  I1 H locs hpo hH => ?_)
  have hq := hq  I1 hpo
  refine lv_iconst (v := 1) hx hb dX5_periodByDoing_11 (by decide) ?_
  refine lv_istore_n (lv' := [(1, .int (1 : Int32)), (0, .ref (b + 0))]) hx hb dX5_periodByDoing_12 rfl hl (by decide) rfl (fun ls hl => ?_)
  obtain ⟨f, hq⟩ := hq
  exact s_X5_periodByDoing_13  C0  f (1 : Int32) _ _ _ _ hq hH (lv_sub hl [1, 0] rfl)
abbrev rm_X0_placeOf : Room := { frames := 0, cells := 0, slots := 0, locals := 0 }
theorem hd_X0_placeOf : yX0_placeOf.cls = RX0 ∧ yX0_placeOf.cls ≠ "java/lang/invoke/MethodHandle" ∧ yX0_placeOf.cls ≠ "java/lang/invoke/VarHandle" ∧ (parseMethodDescriptor yX0_placeOf.desc).map (fun d => d.parameters.length) = some 1 := by decide +kernel
set_option maxRecDepth 100000 in
set_option maxHeartbeats 4000000 in
theorem s_X0_placeOf_22 {k : Nat} {x1 : Int32} {I : wI} {Q : Int32 → Prop} {K4 : Int32 → Int32 → Prop} (hs : wSh k = (0, 0)) (C0 : wCx p m c s args meth cX0_placeOf 4 RX0 (some .int) D cs ad b) (hK4 : ∀ (v2 : Int32) (v3 : Int32) (H : Heap) (locs : List Loc) (ls : Array Slot), K4 v2 v3 → wH D cs b G I s H locs → lv_has ls 4 [(0, .ref (b + k)), (1, .int x1), (2, .int v2), (3, .int v3)] → W p l e rm_X0_placeOf s m args below meth c H locs 0 0 (MQ below (va_Qi (fun r I' => I' = I ∧ Q r) (wPo D cs b G) (fun q => b ≤ q)) args s 0 0 (fun q => b ≤ q)) (F0 m 4 ls [])) : ∀ (v2 : Int32) (v3 : Int32) (H : Heap) (locs : List Loc) (ls : Array Slot), v_X0_placeOf_22 k x1 I Q K4 v2 v3 → wH D cs b G I s H locs → lv_has ls 4 [(0, .ref (b + k)), (1, .int x1), (2, .int v2), (3, .int v3)] → W p l e rm_X0_placeOf s m args below meth c H locs 0 0 (MQ below (va_Qi (fun r I' => I' = I ∧ Q r) (wPo D cs b G) (fun q => b ≤ q)) args s 0 0 (fun q => b ≤ q)) (F0 m 22 ls []) := by
  obtain ⟨hX, hr, hlk, hK, hE⟩ := id C0
  have hx := hX.1
  have hb := hX.2.1
  have hown := hX.2.2.2.1
  have hts := hX.2.2.2.2
  intro v2 v3 H locs ls hq hH hl
  unfold v_X0_placeOf_22 at hq
  refine lv_iinc (v := (v3 + (1 : Int32))) (lv' := [(3, .int (v3 + (1 : Int32))), (0, .ref (b + k)), (1, .int x1), (2, .int v2)]) hx hb dX0_placeOf_22 hl (k := 3) rfl rfl (by decide) rfl (fun ls hl => ?_)
  refine lv_goto (tgt := 4) hx hb dX0_placeOf_25 (by decide) ?_
  exact hK4 v2 (v3 + (1 : Int32)) _ _ _ hq hH (lv_sub hl [1, 2, 3, 0] rfl)
set_option maxRecDepth 100000 in
set_option maxHeartbeats 4000000 in
theorem s_X0_placeOf_4 {k : Nat} {x1 : Int32} {I : wI} {Q : Int32 → Prop} (hs : wSh k = (0, 0)) (C0 : wCx p m c s args meth cX0_placeOf 4 RX0 (some .int) D cs ad b) : ∀ (f : Nat) (v2 : Int32) (v3 : Int32) (H : Heap) (locs : List Loc) (ls : Array Slot), v_X0_placeOf_4 k x1 I Q f v2 v3 → wH D cs b G I s H locs → lv_has ls 4 [(0, .ref (b + k)), (1, .int x1), (2, .int v2), (3, .int v3)] → W p l e rm_X0_placeOf s m args below meth c H locs 0 0 (MQ below (va_Qi (fun r I' => I' = I ∧ Q r) (wPo D cs b G) (fun q => b ≤ q)) args s 0 0 (fun q => b ≤ q)) (F0 m 4 ls []) := by
  obtain ⟨hX, hr, hlk, hK, hE⟩ := id C0
  have hx := hX.1
  have hb := hX.2.1
  have hown := hX.2.2.2.1
  have hts := hX.2.2.2.2
  intro f
  induction f with
  | zero =>
    intro v2 v3 H locs ls hq
    exact hq.elim
  | succ f hK4 =>
    intro v2 v3 H locs ls hq hH hl
    have hq : g_X0_placeOf_4 k x1 I Q (v_X0_placeOf_4 k x1 I Q f) v2 v3 := hq
    unfold g_X0_placeOf_4 at hq
    refine lv_iload_n hx hb dX0_placeOf_4 rfl (lv_at hl 3 rfl) ?_
    refine lv_bipush (v := 6) hx hb dX0_placeOf_5 (by decide) ?_
    refine lv_icmp_ge (tgt := 28) hx hb dX0_placeOf_7 (by decide) (fun hc => ?_) (fun hc => ?_)
    · have hq := hq.1 hc
      refine lv_iload_n hx hb dX0_placeOf_28 rfl (lv_at hl 2 rfl) ?_
      exact w_eI hX hr hlk hH ⟨rfl, hq⟩ dX0_placeOf_29
    · have hq := hq.2 hc
      refine lv_aload_n hx hb dX0_placeOf_10 rfl (lv_at hl 0 rfl) ?_
      refine w_getr hX hK hH ck0 hs 0 1 (k + 1) fr0_0 rfl q1_38 dX0_placeOf_11 ?_
      refine lv_iload_n hx hb dX0_placeOf_14 rfl (lv_at hl 3 rfl) ?_
      obtain ⟨hc, hq⟩ := hq
      refine w_iald hX hK hH (sf0_0 hs) hc dX0_placeOf_15 ?_
      refine lv_iload_n hx hb dX0_placeOf_16 rfl (lv_at hl 1 rfl) ?_
      refine lv_icmp_ne (tgt := 22) hx hb dX0_placeOf_17 (by decide) (fun hc => ?_) (fun hc => ?_)
      · have hq := hq.1 hc
        exact s_X0_placeOf_22 hs C0 hK4 v2 v3 _ _ _ hq hH (lv_sub hl [0, 1, 2, 3] rfl)
      · have hq := hq.2 hc
        refine lv_iload_n hx hb dX0_placeOf_20 rfl (lv_at hl 3 rfl) ?_
        refine lv_istore_n (lv' := [(2, .int v3), (0, .ref (b + k)), (1, .int x1), (3, .int v3)]) hx hb dX0_placeOf_21 rfl hl (by decide) rfl (fun ls hl => ?_)
        exact s_X0_placeOf_22 hs C0 hK4 v3 v3 _ _ _ hq hH (lv_sub hl [1, 2, 0, 3] rfl)
set_option maxRecDepth 100000 in
set_option maxHeartbeats 4000000 in
theorem c_X0_placeOf {l : Launch} {D : va_G} {cs : wC4} {ad : Nat → Nat} {b : Nat} {G : wG} {k : Nat} (hs : wSh k = (0, 0)) (x1 : Int32) (I : wI) (hp : pre_X0_placeOf k x1 I) : Met l yX0_placeOf (ws_ yX0_placeOf cX0_placeOf 4 (some .int)) rm_X0_placeOf (va_Pc [.ref (b + k), .int x1] (wPr D cs ad b G I)) (va_Qi (fun r I' => I' = I ∧ post_X0_placeOf k x1 I r) (wPo D cs b G) (fun q => b ≤ q)) 0 0 (fun q => b ≤ q) := by
  have hq := vc_X0_placeOf k x1 hs I hp
  refine w_met (by decide) (Nat.le_of_ble_eq_true rfl) ?_
  intro p e s m below meth c hX hr hlk hK hE hH ls hl
  have C0 : wCx p m c s _ meth cX0_placeOf 4 RX0 (some .int) D cs ad b := ⟨hX, hr, hlk, hK, hE⟩
  have hX : CallFix p m c cX0_placeOf 4 s _ lw_all RX0 := hX
  have hx := hX.1
  have hb := hX.2.1
  have hown := hX.2.2.2.1
  have hts := hX.2.2.2.2
  have hl : lv_has ls 4 [(0, .ref (b + k)), (1, .int x1)] := hl
  unfold v_X0_placeOf at hq
  refine lv_iload_n hx hb dX0_placeOf_0 rfl (lv_at hl 1 rfl) ?_
  refine lv_istore_n (lv' := [(2, .int x1), (0, .ref (b + k)), (1, .int x1)]) hx hb dX0_placeOf_1 rfl hl (by decide) rfl (fun ls hl => ?_)
  refine lv_iconst (v := 0) hx hb dX0_placeOf_2 (by decide) ?_
  refine lv_istore_n (lv' := [(3, .int (0 : Int32)), (2, .int x1), (0, .ref (b + k)), (1, .int x1)]) hx hb dX0_placeOf_3 rfl hl (by decide) rfl (fun ls hl => ?_)
  obtain ⟨f, hq⟩ := hq
  exact s_X0_placeOf_4 hs C0  f x1 (0 : Int32) _ _ _ hq hH (lv_sub hl [2, 3, 1, 0] rfl)
abbrev rm_X0_leastMultiple : Room := { frames := 0, cells := 0, slots := 0, locals := 0 }
theorem hd_X0_leastMultiple : yX0_leastMultiple.cls = RX0 ∧ yX0_leastMultiple.cls ≠ "java/lang/invoke/MethodHandle" ∧ yX0_leastMultiple.cls ≠ "java/lang/invoke/VarHandle" ∧ (parseMethodDescriptor yX0_leastMultiple.desc).map (fun d => d.parameters.length) = some 2 := by decide +kernel
set_option maxRecDepth 100000 in
set_option maxHeartbeats 4000000 in
theorem s_X0_leastMultiple_25 {x0 : Int32} {x1 : Int32} {I : wI} {Q : Int32 → Prop} (C0 : wCx p m c s args meth cX0_leastMultiple 4 RX0 (some .int) D cs ad b) : ∀ (v2 : Int32) (H : Heap) (locs : List Loc) (ls : Array Slot), v_X0_leastMultiple_25 x0 x1 I Q v2 → wH D cs b G I s H locs → lv_has ls 4 [(2, .int v2)] → W p l e rm_X0_leastMultiple s m args below meth c H locs 0 0 (MQ below (va_Qi (fun r I' => I' = I ∧ Q r) (wPo D cs b G) (fun q => b ≤ q)) args s 0 0 (fun q => b ≤ q)) (F0 m 25 ls []) := by
  obtain ⟨hX, hr, hlk, hK, hE⟩ := id C0
  have hx := hX.1
  have hb := hX.2.1
  have hown := hX.2.2.2.1
  have hts := hX.2.2.2.2
  intro v2 H locs ls hq hH hl
  unfold v_X0_leastMultiple_25 at hq
  refine lv_iload_n hx hb dX0_leastMultiple_25 rfl (lv_at hl 0 rfl) ?_
  exact w_eI hX hr hlk hH ⟨rfl, hq⟩ dX0_leastMultiple_26
set_option maxRecDepth 100000 in
set_option maxHeartbeats 4000000 in
theorem s_X0_leastMultiple_4 {x0 : Int32} {x1 : Int32} {I : wI} {Q : Int32 → Prop} (C0 : wCx p m c s args meth cX0_leastMultiple 4 RX0 (some .int) D cs ad b) : ∀ (f : Nat) (v2 : Int32) (v3 : Int32) (H : Heap) (locs : List Loc) (ls : Array Slot), v_X0_leastMultiple_4 x0 x1 I Q f v2 v3 → wH D cs b G I s H locs → lv_has ls 4 [(0, .int x0), (1, .int x1), (2, .int v2), (3, .int v3)] → W p l e rm_X0_leastMultiple s m args below meth c H locs 0 0 (MQ below (va_Qi (fun r I' => I' = I ∧ Q r) (wPo D cs b G) (fun q => b ≤ q)) args s 0 0 (fun q => b ≤ q)) (F0 m 4 ls []) := by
  obtain ⟨hX, hr, hlk, hK, hE⟩ := id C0
  have hx := hX.1
  have hb := hX.2.1
  have hown := hX.2.2.2.1
  have hts := hX.2.2.2.2
  intro f
  induction f with
  | zero =>
    intro v2 v3 H locs ls hq
    exact hq.elim
  | succ f hK4 =>
    intro v2 v3 H locs ls hq hH hl
    have hq : g_X0_leastMultiple_4 x0 x1 I Q (v_X0_leastMultiple_4 x0 x1 I Q f) v2 v3 := hq
    unfold g_X0_leastMultiple_4 at hq
    refine lv_iload_n hx hb dX0_leastMultiple_4 rfl (lv_at hl 3 rfl) ?_
    refine lv_iload_n hx hb dX0_leastMultiple_5 rfl (lv_at hl 1 rfl) ?_
    refine lv_icmp_ge (tgt := 25) hx hb dX0_leastMultiple_6 (by decide) (fun hc => ?_) (fun hc => ?_)
    · have hq := hq.1 hc
      exact s_X0_leastMultiple_25  C0  v2 _ _ _ hq hH (lv_sub hl [2] rfl)
    · have hq := hq.2 hc
      refine lv_iload_n hx hb dX0_leastMultiple_9 rfl (lv_at hl 2 rfl) ?_
      refine lv_iload_n hx hb dX0_leastMultiple_10 rfl (lv_at hl 1 rfl) ?_
      obtain ⟨hc, hq⟩ := hq
      refine lv_irem hx hb dX0_leastMultiple_11 hc ?_
      refine lv_if_eq (tgt := 25) hx hb dX0_leastMultiple_12 (by decide) (fun hc => ?_) (fun hc => ?_)
      · have hq := hq.1 hc
        exact s_X0_leastMultiple_25  C0  v2 _ _ _ hq hH (lv_sub hl [2] rfl)
      · have hq := hq.2 hc
        refine lv_iload_n hx hb dX0_leastMultiple_15 rfl (lv_at hl 2 rfl) ?_
        refine lv_iload_n hx hb dX0_leastMultiple_16 rfl (lv_at hl 0 rfl) ?_
        refine lv_iadd hx hb dX0_leastMultiple_17 ?_
        refine lv_istore_n (lv' := [(2, .int (v2 + x0)), (0, .int x0), (1, .int x1), (3, .int v3)]) hx hb dX0_leastMultiple_18 rfl hl (by decide) rfl (fun ls hl => ?_)
        refine lv_iinc (v := (v3 + (1 : Int32))) (lv' := [(3, .int (v3 + (1 : Int32))), (2, .int (v2 + x0)), (0, .int x0), (1, .int x1)]) hx hb dX0_leastMultiple_19 hl (k := 3) rfl rfl (by decide) rfl (fun ls hl => ?_)
        refine lv_goto (tgt := 4) hx hb dX0_leastMultiple_22 (by decide) ?_
        exact hK4 (v2 + x0) (v3 + (1 : Int32)) _ _ _ hq hH (lv_sub hl [2, 3, 1, 0] rfl)
set_option maxRecDepth 100000 in
set_option maxHeartbeats 4000000 in
theorem c_X0_leastMultiple {l : Launch} {D : va_G} {cs : wC4} {ad : Nat → Nat} {b : Nat} {G : wG} (x0 : Int32) (x1 : Int32) (I : wI) (hp : pre_X0_leastMultiple x0 x1 I) : Met l yX0_leastMultiple (ws_ yX0_leastMultiple cX0_leastMultiple 4 (some .int)) rm_X0_leastMultiple (va_Pc [.int x0, .int x1] (wPr D cs ad b G I)) (va_Qi (fun r I' => I' = I ∧ post_X0_leastMultiple x0 x1 I r) (wPo D cs b G) (fun q => b ≤ q)) 0 0 (fun q => b ≤ q) := by
  have hq := vc_X0_leastMultiple x0 x1 I hp
  refine w_met (by decide) (Nat.le_of_ble_eq_true rfl) ?_
  intro p e s m below meth c hX hr hlk hK hE hH ls hl
  have C0 : wCx p m c s _ meth cX0_leastMultiple 4 RX0 (some .int) D cs ad b := ⟨hX, hr, hlk, hK, hE⟩
  have hX : CallFix p m c cX0_leastMultiple 4 s _ lw_all RX0 := hX
  have hx := hX.1
  have hb := hX.2.1
  have hown := hX.2.2.2.1
  have hts := hX.2.2.2.2
  have hl : lv_has ls 4 [(0, .int x0), (1, .int x1)] := hl
  unfold v_X0_leastMultiple at hq
  refine lv_iload_n hx hb dX0_leastMultiple_0 rfl (lv_at hl 0 rfl) ?_
  refine lv_istore_n (lv' := [(2, .int x0), (0, .int x0), (1, .int x1)]) hx hb dX0_leastMultiple_1 rfl hl (by decide) rfl (fun ls hl => ?_)
  refine lv_iconst (v := 1) hx hb dX0_leastMultiple_2 (by decide) ?_
  refine lv_istore_n (lv' := [(3, .int (1 : Int32)), (2, .int x0), (0, .int x0), (1, .int x1)]) hx hb dX0_leastMultiple_3 rfl hl (by decide) rfl (fun ls hl => ?_)
  obtain ⟨f, hq⟩ := hq
  exact s_X0_leastMultiple_4  C0  f x0 (1 : Int32) _ _ _ hq hH (lv_sub hl [2, 3, 1, 0] rfl)
abbrev rm_X0_periodByRounds : Room := { frames := 1, cells := 0, slots := 0, locals := 23 }
theorem hd_X0_periodByRounds : yX0_periodByRounds.cls = RX0 ∧ yX0_periodByRounds.cls ≠ "java/lang/invoke/MethodHandle" ∧ yX0_periodByRounds.cls ≠ "java/lang/invoke/VarHandle" ∧ (parseMethodDescriptor yX0_periodByRounds.desc).map (fun d => d.parameters.length) = some 0 := by decide +kernel
set_option maxRecDepth 100000 in
set_option maxHeartbeats 4000000 in
theorem s_X0_periodByRounds_95 {k : Nat} {I : wI} {Q : Int32 → Prop} {K6 : Int32 → Int32 → Int32 → Prop} (hs : wSh k = (0, 0)) (C0 : wCx p m c s args meth cX0_periodByRounds 7 RX0 (some .int) D cs ad b) (hK6 : ∀ (v1 : Int32) (v2 : Int32) (v3 : Int32) (H : Heap) (locs : List Loc) (ls : Array Slot), K6 v1 v2 v3 → wH D cs b G I s H locs → lv_has ls 7 [(0, .ref (b + k)), (1, .int v1), (2, .int v2), (3, .int v3)] → W p l e rm_X0_periodByRounds s m args below meth c H locs 0 0 (MQ below (va_Qi (fun r I' => I' = I ∧ Q r) (wPo D cs b G) (fun q => b ≤ q)) args s 0 0 (fun q => b ≤ q)) (F0 m 6 ls [])) : ∀ (v1 : Int32) (v2 : Int32) (v3 : Int32) (H : Heap) (locs : List Loc) (ls : Array Slot), v_X0_periodByRounds_95 k I Q K6 v1 v2 v3 → wH D cs b G I s H locs → lv_has ls 7 [(0, .ref (b + k)), (1, .int v1), (2, .int v2), (3, .int v3)] → W p l e rm_X0_periodByRounds s m args below meth c H locs 0 0 (MQ below (va_Qi (fun r I' => I' = I ∧ Q r) (wPo D cs b G) (fun q => b ≤ q)) args s 0 0 (fun q => b ≤ q)) (F0 m 95 ls []) := by
  obtain ⟨hX, hr, hlk, hK, hE⟩ := id C0
  have hx := hX.1
  have hb := hX.2.1
  have hown := hX.2.2.2.1
  have hts := hX.2.2.2.2
  intro v1 v2 v3 H locs ls hq hH hl
  unfold v_X0_periodByRounds_95 at hq
  refine lv_iinc (v := (v3 + (1 : Int32))) (lv' := [(3, .int (v3 + (1 : Int32))), (0, .ref (b + k)), (1, .int v1), (2, .int v2)]) hx hb dX0_periodByRounds_95 hl (k := 3) rfl rfl (by decide) rfl (fun ls hl => ?_)
  refine lv_goto (tgt := 6) hx hb dX0_periodByRounds_98 (by decide) ?_
  exact hK6 v1 v2 (v3 + (1 : Int32)) _ _ _ hq hH (lv_sub hl [1, 2, 3, 0] rfl)
set_option maxRecDepth 100000 in
set_option maxHeartbeats 4000000 in
theorem s_X0_periodByRounds_91 {k : Nat} {I : wI} {Q : Int32 → Prop} {K6 : Int32 → Int32 → Int32 → Prop} (hs : wSh k = (0, 0)) (C0 : wCx p m c s args meth cX0_periodByRounds 7 RX0 (some .int) D cs ad b) (hK6 : ∀ (v1 : Int32) (v2 : Int32) (v3 : Int32) (H : Heap) (locs : List Loc) (ls : Array Slot), K6 v1 v2 v3 → wH D cs b G I s H locs → lv_has ls 7 [(0, .ref (b + k)), (1, .int v1), (2, .int v2), (3, .int v3)] → W p l e rm_X0_periodByRounds s m args below meth c H locs 0 0 (MQ below (va_Qi (fun r I' => I' = I ∧ Q r) (wPo D cs b G) (fun q => b ≤ q)) args s 0 0 (fun q => b ≤ q)) (F0 m 6 ls [])) : ∀ (v2 : Int32) (v3 : Int32) (t0 : Int32) (t1 : Int32) (H : Heap) (locs : List Loc) (ls : Array Slot), v_X0_periodByRounds_91 k I Q K6 v2 v3 t0 t1 → wH D cs b G I s H locs → lv_has ls 7 [(0, .ref (b + k)), (2, .int v2), (3, .int v3)] → W p l e rm_X0_periodByRounds s m args below meth c H locs 0 0 (MQ below (va_Qi (fun r I' => I' = I ∧ Q r) (wPo D cs b G) (fun q => b ≤ q)) args s 0 0 (fun q => b ≤ q)) (F0 m 91 ls [.int t0, .int t1]) := by
  obtain ⟨hX, hr, hlk, hK, hE⟩ := id C0
  have hx := hX.1
  have hb := hX.2.1
  have hown := hX.2.2.2.1
  have hts := hX.2.2.2.2
  intro v2 v3 t0 t1 H locs ls hq hH hl
  unfold v_X0_periodByRounds_91 at hq
  obtain ⟨hp, hq⟩ := hq
  refine w_cIp hH (w_rS (As := [.int t1, .int t0]) (rest := []) hX hK hE hH (c_X0_leastMultiple  _ _ _ hp) q3_67 q3_68 q1_3 q3_69 hd_X0_leastMultiple.2 ⟨Nat.le_of_ble_eq_true rfl, Nat.le_of_ble_eq_true rfl⟩ ⟨rfl, rfl⟩ rfl hl.1 rfl (Nat.le_of_ble_eq_true rfl) dX0_periodByRounds_91 ⟨Nat.zero_le _, Nat.zero_le _⟩) (fun r1  H locs hpo hH => ?_)
  have hq := hq r1  hpo
  refine lv_istore_n (lv' := [(1, .int r1), (0, .ref (b + k)), (2, .int v2), (3, .int v3)]) hx hb dX0_periodByRounds_94 rfl hl (by decide) rfl (fun ls hl => ?_)
  exact s_X0_periodByRounds_95 hs C0 hK6 r1 v2 v3 _ _ _ hq hH (lv_sub hl [1, 0, 2, 3] rfl)
set_option maxRecDepth 100000 in
set_option maxHeartbeats 4000000 in
theorem s_X0_periodByRounds_69 {k : Nat} {I : wI} {Q : Int32 → Prop} {K6 : Int32 → Int32 → Int32 → Prop} (hs : wSh k = (0, 0)) (C0 : wCx p m c s args meth cX0_periodByRounds 7 RX0 (some .int) D cs ad b) (hK6 : ∀ (v1 : Int32) (v2 : Int32) (v3 : Int32) (H : Heap) (locs : List Loc) (ls : Array Slot), K6 v1 v2 v3 → wH D cs b G I s H locs → lv_has ls 7 [(0, .ref (b + k)), (1, .int v1), (2, .int v2), (3, .int v3)] → W p l e rm_X0_periodByRounds s m args below meth c H locs 0 0 (MQ below (va_Qi (fun r I' => I' = I ∧ Q r) (wPo D cs b G) (fun q => b ≤ q)) args s 0 0 (fun q => b ≤ q)) (F0 m 6 ls [])) : ∀ (v1 : Int32) (v2 : Int32) (v3 : Int32) (v4 : Int32) (v5 : Int32) (H : Heap) (locs : List Loc) (ls : Array Slot), v_X0_periodByRounds_69 k I Q K6 v1 v2 v3 v4 v5 → wH D cs b G I s H locs → lv_has ls 7 [(0, .ref (b + k)), (1, .int v1), (2, .int v2), (3, .int v3), (4, .int v4), (5, .int v5)] → W p l e rm_X0_periodByRounds s m args below meth c H locs 0 0 (MQ below (va_Qi (fun r I' => I' = I ∧ Q r) (wPo D cs b G) (fun q => b ≤ q)) args s 0 0 (fun q => b ≤ q)) (F0 m 69 ls []) := by
  obtain ⟨hX, hr, hlk, hK, hE⟩ := id C0
  have hx := hX.1
  have hb := hX.2.1
  have hown := hX.2.2.2.1
  have hts := hX.2.2.2.2
  intro v1 v2 v3 v4 v5 H locs ls hq hH hl
  unfold v_X0_periodByRounds_69 at hq
  refine lv_iload hx hb dX0_periodByRounds_69 (lv_at hl 4 rfl) ?_
  refine lv_if_le (tgt := 95) hx hb dX0_periodByRounds_71 (by decide) (fun hc => ?_) (fun hc => ?_)
  · have hq := hq.1 hc
    exact s_X0_periodByRounds_95 hs C0 hK6 v1 v2 v3 _ _ _ hq hH (lv_sub hl [0, 1, 2, 3] rfl)
  · have hq := hq.2 hc
    refine lv_iload_n hx hb dX0_periodByRounds_74 rfl (lv_at hl 1 rfl) ?_
    refine lv_iload hx hb dX0_periodByRounds_75 (lv_at hl 5 rfl) ?_
    refine lv_iconst (v := 5) hx hb dX0_periodByRounds_77 (by decide) ?_
    refine lv_irem hx hb dX0_periodByRounds_78 (by decide) ?_
    refine lv_if_ne (tgt := 87) hx hb dX0_periodByRounds_79 (by decide) (fun hc => ?_) (fun hc => ?_)
    · have hq := hq.1 hc
      refine lv_iconst (v := 5) hx hb dX0_periodByRounds_87 (by decide) ?_
      refine lv_iload hx hb dX0_periodByRounds_88 (lv_at hl 4 rfl) ?_
      refine lv_imul hx hb dX0_periodByRounds_90 ?_
      exact s_X0_periodByRounds_91 hs C0 hK6 v2 v3 ((5 : Int32) * v4) v1 _ _ _ hq hH (lv_sub hl [0, 2, 3] rfl)
    · have hq := hq.2 hc
      refine lv_iload hx hb dX0_periodByRounds_82 (lv_at hl 4 rfl) ?_
      refine lv_goto (tgt := 91) hx hb dX0_periodByRounds_84 (by decide) ?_
      exact s_X0_periodByRounds_91 hs C0 hK6 v2 v3 v4 v1 _ _ _ hq hH (lv_sub hl [0, 2, 3] rfl)
set_option maxRecDepth 100000 in
set_option maxHeartbeats 4000000 in
theorem s_X0_periodByRounds_21 {k : Nat} {I : wI} {Q : Int32 → Prop} {K6 : Int32 → Int32 → Int32 → Prop} (hs : wSh k = (0, 0)) (C0 : wCx p m c s args meth cX0_periodByRounds 7 RX0 (some .int) D cs ad b) (hK6 : ∀ (v1 : Int32) (v2 : Int32) (v3 : Int32) (H : Heap) (locs : List Loc) (ls : Array Slot), K6 v1 v2 v3 → wH D cs b G I s H locs → lv_has ls 7 [(0, .ref (b + k)), (1, .int v1), (2, .int v2), (3, .int v3)] → W p l e rm_X0_periodByRounds s m args below meth c H locs 0 0 (MQ below (va_Qi (fun r I' => I' = I ∧ Q r) (wPo D cs b G) (fun q => b ≤ q)) args s 0 0 (fun q => b ≤ q)) (F0 m 6 ls [])) : ∀ (f : Nat) (v1 : Int32) (v2 : Int32) (v3 : Int32) (v4 : Int32) (v5 : Int32) (v6 : Int32) (H : Heap) (locs : List Loc) (ls : Array Slot), v_X0_periodByRounds_21 k I Q K6 f v1 v2 v3 v4 v5 v6 → wH D cs b G I s H locs → lv_has ls 7 [(0, .ref (b + k)), (1, .int v1), (2, .int v2), (3, .int v3), (4, .int v4), (5, .int v5), (6, .int v6)] → W p l e rm_X0_periodByRounds s m args below meth c H locs 0 0 (MQ below (va_Qi (fun r I' => I' = I ∧ Q r) (wPo D cs b G) (fun q => b ≤ q)) args s 0 0 (fun q => b ≤ q)) (F0 m 21 ls []) := by
  obtain ⟨hX, hr, hlk, hK, hE⟩ := id C0
  have hx := hX.1
  have hb := hX.2.1
  have hown := hX.2.2.2.1
  have hts := hX.2.2.2.2
  intro f
  induction f with
  | zero =>
    intro v1 v2 v3 v4 v5 v6 H locs ls hq
    exact hq.elim
  | succ f hK21 =>
    intro v1 v2 v3 v4 v5 v6 H locs ls hq hH hl
    have hq : g_X0_periodByRounds_21 k I Q K6 (v_X0_periodByRounds_21 k I Q K6 f) v1 v2 v3 v4 v5 v6 := hq
    unfold g_X0_periodByRounds_21 at hq
    refine lv_iload hx hb dX0_periodByRounds_21 (lv_at hl 4 rfl) ?_
    refine lv_bipush (v := 6) hx hb dX0_periodByRounds_23 (by decide) ?_
    refine lv_icmp_ge (tgt := 69) hx hb dX0_periodByRounds_25 (by decide) (fun hc => ?_) (fun hc => ?_)
    · have hq := hq.1 hc
      exact s_X0_periodByRounds_69 hs C0 hK6 v1 v2 v3 v4 v5 _ _ _ hq hH (lv_sub hl [0, 1, 2, 3, 4, 5] rfl)
    · have hq := hq.2 hc
      refine lv_iload_n hx hb dX0_periodByRounds_28 rfl (lv_at hl 2 rfl) ?_
      refine lv_iload hx hb dX0_periodByRounds_29 (lv_at hl 6 rfl) ?_
      refine lv_ishr hx hb dX0_periodByRounds_31 ?_
      refine lv_iconst (v := 1) hx hb dX0_periodByRounds_32 (by decide) ?_
      refine lv_iand hx hb dX0_periodByRounds_33 ?_
      refine lv_if_ne (tgt := 69) hx hb dX0_periodByRounds_34 (by decide) (fun hc => ?_) (fun hc => ?_)
      · have hq := hq.1 hc
        exact s_X0_periodByRounds_69 hs C0 hK6 v1 v2 v3 v4 v5 _ _ _ hq hH (lv_sub hl [0, 1, 2, 3, 4, 5] rfl)
      · have hq := hq.2 hc
        refine lv_iload_n hx hb dX0_periodByRounds_37 rfl (lv_at hl 2 rfl) ?_
        refine lv_iconst (v := 1) hx hb dX0_periodByRounds_38 (by decide) ?_
        refine lv_iload hx hb dX0_periodByRounds_39 (lv_at hl 6 rfl) ?_
        refine lv_ishl hx hb dX0_periodByRounds_41 ?_
        refine lv_ior hx hb dX0_periodByRounds_42 ?_
        refine lv_istore_n (lv' := [(2, .int (v2 ||| ((1 : Int32) <<< (v6 &&& 31)))), (0, .ref (b + k)), (1, .int v1), (3, .int v3), (4, .int v4), (5, .int v5), (6, .int v6)]) hx hb dX0_periodByRounds_43 rfl hl (by decide) rfl (fun ls hl => ?_)
        refine lv_aload_n hx hb dX0_periodByRounds_44 rfl (lv_at hl 1 rfl) ?_
        refine lv_iload hx hb dX0_periodByRounds_45 (lv_at hl 6 rfl) ?_
        obtain ⟨hp, hq⟩ := hq
        refine w_cIp hH (w_rV (As := [.int v6]) (rest := []) hX hK hE hH (c_X0_placeOf hs _ _ hp) ck0 hs q3_63 q3_65 qs17 q1_3 q3_66 hd_X0_placeOf ⟨Nat.le_of_ble_eq_true rfl, Nat.le_of_ble_eq_true rfl⟩ ⟨rfl, rfl⟩ rfl hl.1 rfl (Nat.le_of_ble_eq_true rfl) dX0_periodByRounds_47 ⟨Nat.zero_le _, Nat.zero_le _⟩) (fun r1  H locs hpo hH => ?_)
        have hq := hq r1  hpo
        refine lv_istore (lv' := [(6, .int r1), (2, .int (v2 ||| ((1 : Int32) <<< (v6 &&& 31)))), (0, .ref (b + k)), (1, .int v1), (3, .int v3), (4, .int v4), (5, .int v5)]) hx hb dX0_periodByRounds_50 hl (by decide) rfl (fun ls hl => ?_)
        refine lv_iload hx hb dX0_periodByRounds_52 (lv_at hl 6 rfl) ?_
        refine lv_aload_n hx hb dX0_periodByRounds_54 rfl (lv_at hl 2 rfl) ?_
        refine lv_iload hx hb dX0_periodByRounds_55 (lv_at hl 0 rfl) ?_
        obtain ⟨hp, hq⟩ := hq
        refine w_cIp hH (w_rV (As := [.int r1]) (rest := [.int v5]) hX hK hE hH (c_X0_notchAt hs _ _ hp) ck0 hs q3_26 q3_18 q3_19 q1_3 q3_20 hd_X0_notchAt ⟨Nat.le_of_ble_eq_true rfl, Nat.le_of_ble_eq_true rfl⟩ ⟨rfl, rfl⟩ rfl hl.1 rfl (Nat.le_of_ble_eq_true rfl) dX0_periodByRounds_57 ⟨Nat.zero_le _, Nat.zero_le _⟩) (fun r2  H locs hpo hH => ?_)
        have hq := hq r2  hpo
        refine lv_iadd hx hb dX0_periodByRounds_60 ?_
        refine lv_istore (lv' := [(5, .int (v5 + r2)), (6, .int r1), (2, .int (v2 ||| ((1 : Int32) <<< (v6 &&& 31)))), (0, .ref (b + k)), (1, .int v1), (3, .int v3), (4, .int v4)]) hx hb dX0_periodByRounds_61 hl (by decide) rfl (fun ls hl => ?_)
        refine lv_iinc (v := (v4 + (1 : Int32))) (lv' := [(4, .int (v4 + (1 : Int32))), (5, .int (v5 + r2)), (6, .int r1), (2, .int (v2 ||| ((1 : Int32) <<< (v6 &&& 31)))), (0, .ref (b + k)), (1, .int v1), (3, .int v3)]) hx hb dX0_periodByRounds_63 hl (k := 6) rfl rfl (by decide) rfl (fun ls hl => ?_)
        refine lv_goto (tgt := 21) hx hb dX0_periodByRounds_66 (by decide) ?_
        exact hK21 v1 (v2 ||| ((1 : Int32) <<< (v6 &&& 31))) v3 (v4 + (1 : Int32)) (v5 + r2) r1 _ _ _ hq hH (lv_sub hl [4, 5, 3, 6, 0, 1, 2] rfl)
set_option maxRecDepth 100000 in
set_option maxHeartbeats 4000000 in
theorem s_X0_periodByRounds_6 {k : Nat} {I : wI} {Q : Int32 → Prop} (hs : wSh k = (0, 0)) (C0 : wCx p m c s args meth cX0_periodByRounds 7 RX0 (some .int) D cs ad b) : ∀ (f : Nat) (v1 : Int32) (v2 : Int32) (v3 : Int32) (H : Heap) (locs : List Loc) (ls : Array Slot), v_X0_periodByRounds_6 k I Q f v1 v2 v3 → wH D cs b G I s H locs → lv_has ls 7 [(0, .ref (b + k)), (1, .int v1), (2, .int v2), (3, .int v3)] → W p l e rm_X0_periodByRounds s m args below meth c H locs 0 0 (MQ below (va_Qi (fun r I' => I' = I ∧ Q r) (wPo D cs b G) (fun q => b ≤ q)) args s 0 0 (fun q => b ≤ q)) (F0 m 6 ls []) := by
  obtain ⟨hX, hr, hlk, hK, hE⟩ := id C0
  have hx := hX.1
  have hb := hX.2.1
  have hown := hX.2.2.2.1
  have hts := hX.2.2.2.2
  intro f
  induction f with
  | zero =>
    intro v1 v2 v3 H locs ls hq
    exact hq.elim
  | succ f hK6 =>
    intro v1 v2 v3 H locs ls hq hH hl
    have hq : g_X0_periodByRounds_6 k I Q (v_X0_periodByRounds_6 k I Q f) v1 v2 v3 := hq
    unfold g_X0_periodByRounds_6 at hq
    refine lv_iload_n hx hb dX0_periodByRounds_6 rfl (lv_at hl 3 rfl) ?_
    refine lv_bipush (v := 6) hx hb dX0_periodByRounds_7 (by decide) ?_
    refine lv_icmp_ge (tgt := 101) hx hb dX0_periodByRounds_9 (by decide) (fun hc => ?_) (fun hc => ?_)
    · have hq := hq.1 hc
      refine lv_iload_n hx hb dX0_periodByRounds_101 rfl (lv_at hl 1 rfl) ?_
      exact w_eI hX hr hlk hH ⟨rfl, hq⟩ dX0_periodByRounds_102
    · have hq := hq.2 hc
      refine lv_iconst (v := 0) hx hb dX0_periodByRounds_12 (by decide) ?_
      refine lv_istore (lv' := [(4, .int (0 : Int32)), (0, .ref (b + k)), (1, .int v1), (2, .int v2), (3, .int v3)]) hx hb dX0_periodByRounds_13 hl (by decide) rfl (fun ls hl => ?_)
      refine lv_iconst (v := 0) hx hb dX0_periodByRounds_15 (by decide) ?_
      refine lv_istore (lv' := [(5, .int (0 : Int32)), (4, .int (0 : Int32)), (0, .ref (b + k)), (1, .int v1), (2, .int v2), (3, .int v3)]) hx hb dX0_periodByRounds_16 hl (by decide) rfl (fun ls hl => ?_)
      refine lv_iload_n hx hb dX0_periodByRounds_18 rfl (lv_at hl 5 rfl) ?_
      refine lv_istore (lv' := [(6, .int v3), (5, .int (0 : Int32)), (4, .int (0 : Int32)), (0, .ref (b + k)), (1, .int v1), (2, .int v2), (3, .int v3)]) hx hb dX0_periodByRounds_19 hl (by decide) rfl (fun ls hl => ?_)
      obtain ⟨f, hq⟩ := hq
      exact s_X0_periodByRounds_21 hs C0 hK6 f v1 v2 v3 (0 : Int32) (0 : Int32) v3 _ _ _ hq hH (lv_sub hl [3, 4, 5, 6, 2, 1, 0] rfl)
set_option maxRecDepth 100000 in
set_option maxHeartbeats 4000000 in
theorem c_X0_periodByRounds {l : Launch} {D : va_G} {cs : wC4} {ad : Nat → Nat} {b : Nat} {G : wG} {k : Nat} (hs : wSh k = (0, 0))  (I : wI) (hp : pre_X0_periodByRounds k I) : Met l yX0_periodByRounds (ws_ yX0_periodByRounds cX0_periodByRounds 7 (some .int)) rm_X0_periodByRounds (va_Pc [.ref (b + k)] (wPr D cs ad b G I)) (va_Qi (fun r I' => I' = I ∧ post_X0_periodByRounds k I r) (wPo D cs b G) (fun q => b ≤ q)) 0 0 (fun q => b ≤ q) := by
  have hq := vc_X0_periodByRounds k hs I hp
  refine w_met (by decide) (Nat.le_of_ble_eq_true rfl) ?_
  intro p e s m below meth c hX hr hlk hK hE hH ls hl
  have C0 : wCx p m c s _ meth cX0_periodByRounds 7 RX0 (some .int) D cs ad b := ⟨hX, hr, hlk, hK, hE⟩
  have hX : CallFix p m c cX0_periodByRounds 7 s _ lw_all RX0 := hX
  have hx := hX.1
  have hb := hX.2.1
  have hown := hX.2.2.2.1
  have hts := hX.2.2.2.2
  have hl : lv_has ls 7 [(0, .ref (b + k))] := hl
  unfold v_X0_periodByRounds at hq
  refine lv_iconst (v := 1) hx hb dX0_periodByRounds_0 (by decide) ?_
  refine lv_istore_n (lv' := [(1, .int (1 : Int32)), (0, .ref (b + k))]) hx hb dX0_periodByRounds_1 rfl hl (by decide) rfl (fun ls hl => ?_)
  refine lv_iconst (v := 0) hx hb dX0_periodByRounds_2 (by decide) ?_
  refine lv_istore_n (lv' := [(2, .int (0 : Int32)), (1, .int (1 : Int32)), (0, .ref (b + k))]) hx hb dX0_periodByRounds_3 rfl hl (by decide) rfl (fun ls hl => ?_)
  refine lv_iconst (v := 0) hx hb dX0_periodByRounds_4 (by decide) ?_
  refine lv_istore_n (lv' := [(3, .int (0 : Int32)), (2, .int (0 : Int32)), (1, .int (1 : Int32)), (0, .ref (b + k))]) hx hb dX0_periodByRounds_5 rfl hl (by decide) rfl (fun ls hl => ?_)
  obtain ⟨f, hq⟩ := hq
  exact s_X0_periodByRounds_6 hs C0  f (1 : Int32) (0 : Int32) (0 : Int32) _ _ _ hq hH (lv_sub hl [3, 2, 1, 0] rfl)
abbrev rm_X3_usesOf : Room := { frames := 0, cells := 0, slots := 0, locals := 0 }
theorem hd_X3_usesOf : yX3_usesOf.cls = RX3 ∧ yX3_usesOf.cls ≠ "java/lang/invoke/MethodHandle" ∧ yX3_usesOf.cls ≠ "java/lang/invoke/VarHandle" ∧ (parseMethodDescriptor yX3_usesOf.desc).map (fun d => d.parameters.length) = some 1 := by decide +kernel
set_option maxRecDepth 100000 in
set_option maxHeartbeats 4000000 in
theorem s_X3_usesOf_19 {k : Nat} {x1 : Int32} {I : wI} {Q : Int32 → Prop} (hs : wSh k = (0, 3)) (C0 : wCx p m c s args meth cX3_usesOf 2 RX3 (some .int) D cs ad b) : ∀ (t0 : Int32) (H : Heap) (locs : List Loc) (ls : Array Slot), v_X3_usesOf_19 k x1 I Q t0 → wH D cs b G I s H locs → lv_has ls 2 [] → W p l e rm_X3_usesOf s m args below meth c H locs 0 0 (MQ below (va_Qi (fun r I' => I' = I ∧ Q r) (wPo D cs b G) (fun q => b ≤ q)) args s 0 0 (fun q => b ≤ q)) (F0 m 19 ls [.int t0]) := by
  obtain ⟨hX, hr, hlk, hK, hE⟩ := id C0
  have hx := hX.1
  have hb := hX.2.1
  have hown := hX.2.2.2.1
  have hts := hX.2.2.2.2
  intro t0 H locs ls hq hH hl
  unfold v_X3_usesOf_19 at hq
  exact w_eI hX hr hlk hH ⟨rfl, hq⟩ dX3_usesOf_19
set_option maxRecDepth 100000 in
set_option maxHeartbeats 4000000 in
theorem s_X3_usesOf_18 {k : Nat} {x1 : Int32} {I : wI} {Q : Int32 → Prop} (hs : wSh k = (0, 3)) (C0 : wCx p m c s args meth cX3_usesOf 2 RX3 (some .int) D cs ad b) : ∀  (H : Heap) (locs : List Loc) (ls : Array Slot), v_X3_usesOf_18 k x1 I Q  → wH D cs b G I s H locs → lv_has ls 2 [] → W p l e rm_X3_usesOf s m args below meth c H locs 0 0 (MQ below (va_Qi (fun r I' => I' = I ∧ Q r) (wPo D cs b G) (fun q => b ≤ q)) args s 0 0 (fun q => b ≤ q)) (F0 m 18 ls []) := by
  obtain ⟨hX, hr, hlk, hK, hE⟩ := id C0
  have hx := hX.1
  have hb := hX.2.1
  have hown := hX.2.2.2.1
  have hts := hX.2.2.2.2
  intro  H locs ls hq hH hl
  unfold v_X3_usesOf_18 at hq
  refine lv_iconst (v := 0) hx hb dX3_usesOf_18 (by decide) ?_
  exact s_X3_usesOf_19 hs C0  (0 : Int32) _ _ _ hq hH (lv_sub hl [] rfl)
set_option maxRecDepth 100000 in
set_option maxHeartbeats 4000000 in
theorem c_X3_usesOf {l : Launch} {D : va_G} {cs : wC4} {ad : Nat → Nat} {b : Nat} {G : wG} {k : Nat} (hs : wSh k = (0, 3)) (x1 : Int32) (I : wI) (hp : pre_X3_usesOf k x1 I) : Met l yX3_usesOf (ws_ yX3_usesOf cX3_usesOf 2 (some .int)) rm_X3_usesOf (va_Pc [.ref (b + k), .int x1] (wPr D cs ad b G I)) (va_Qi (fun r I' => I' = I ∧ post_X3_usesOf k x1 I r) (wPo D cs b G) (fun q => b ≤ q)) 0 0 (fun q => b ≤ q) := by
  have hq := vc_X3_usesOf k x1 hs I hp
  refine w_met (by decide) (Nat.le_of_ble_eq_true rfl) ?_
  intro p e s m below meth c hX hr hlk hK hE hH ls hl
  have C0 : wCx p m c s _ meth cX3_usesOf 2 RX3 (some .int) D cs ad b := ⟨hX, hr, hlk, hK, hE⟩
  have hX : CallFix p m c cX3_usesOf 2 s _ lw_all RX3 := hX
  have hx := hX.1
  have hb := hX.2.1
  have hown := hX.2.2.2.1
  have hts := hX.2.2.2.2
  have hl : lv_has ls 2 [(0, .ref (b + k)), (1, .int x1)] := hl
  unfold v_X3_usesOf at hq
  refine lv_iload_n hx hb dX3_usesOf_0 rfl (lv_at hl 1 rfl) ?_
  refine lv_if_lt (tgt := 18) hx hb dX3_usesOf_1 (by decide) (fun hc => ?_) (fun hc => ?_)
  · have hq := hq.1 hc
    exact s_X3_usesOf_18 hs C0   _ _ _ hq hH (lv_sub hl [] rfl)
  · have hq := hq.2 hc
    refine lv_iload_n hx hb dX3_usesOf_4 rfl (lv_at hl 1 rfl) ?_
    refine lv_iconst (v := 5) hx hb dX3_usesOf_5 (by decide) ?_
    refine lv_icmp_ge (tgt := 18) hx hb dX3_usesOf_6 (by decide) (fun hc => ?_) (fun hc => ?_)
    · have hq := hq.1 hc
      exact s_X3_usesOf_18 hs C0   _ _ _ hq hH (lv_sub hl [] rfl)
    · have hq := hq.2 hc
      refine lv_aload_n hx hb dX3_usesOf_9 rfl (lv_at hl 0 rfl) ?_
      refine w_getr hX hK hH ck3 hs 5 10 (k + 10) fr3_5 rfl q1_73 dX3_usesOf_10 ?_
      refine lv_iload_n hx hb dX3_usesOf_13 rfl (lv_at hl 1 rfl) ?_
      obtain ⟨hc, hq⟩ := hq
      refine w_iald hX hK hH (sf3_5 hs) hc dX3_usesOf_14 ?_
      refine lv_goto (tgt := 19) hx hb dX3_usesOf_15 (by decide) ?_
      exact s_X3_usesOf_19 hs C0  (I (k + 10) (x1).toNatClampNeg) _ _ _ hq hH (lv_sub hl [] rfl)
abbrev rm_X5_showPair : Room := { frames := 2, cells := 0, slots := 0, locals := 54 }
theorem hd_X5_showPair : yX5_showPair.cls = RX5 ∧ yX5_showPair.cls ≠ "java/lang/invoke/MethodHandle" ∧ yX5_showPair.cls ≠ "java/lang/invoke/VarHandle" ∧ (parseMethodDescriptor yX5_showPair.desc).map (fun d => d.parameters.length) = some 2 := by decide +kernel
set_option maxRecDepth 100000 in
set_option maxHeartbeats 4000000 in
theorem c_X5_showPair {l : Launch} {D : va_G} {cs : wC4} {ad : Nat → Nat} {b : Nat} {G : wG} (x1 : Int32) (x2 : Int32) (I : wI) (hp : pre_X5_showPair x1 x2 I) : Met l yX5_showPair (ws_ yX5_showPair cX5_showPair 3 none) rm_X5_showPair (va_Pc [.ref (b + 0), .int x1, .int x2] (wPr D cs ad b G I)) (va_Qv (fun I' => post_X5_showPair x1 x2 I I') (wPo D cs b G) (fun q => b ≤ q)) 0 0 (fun q => b ≤ q) := by
  have hq := vc_X5_showPair x1 x2 I hp
  refine w_met (by decide) (Nat.le_of_ble_eq_true rfl) ?_
  intro p e s m below meth c hX hr hlk hK hE hH ls hl
  have C0 : wCx p m c s _ meth cX5_showPair 3 RX5 none D cs ad b := ⟨hX, hr, hlk, hK, hE⟩
  have hX : CallFix p m c cX5_showPair 3 s _ lw_all RX5 := hX
  have hx := hX.1
  have hb := hX.2.1
  have hown := hX.2.2.2.1
  have hts := hX.2.2.2.2
  have hl : lv_has ls 3 [(0, .ref (b + 0)), (1, .int x1), (2, .int x2)] := hl
  unfold v_X5_showPair at hq
  refine lv_aload_n hx hb dX5_showPair_0 rfl (lv_at hl 0 rfl) ?_
  refine w_getr hX hK hH ck5 sh0 6 30 30 fr5_6 rfl q1_184 dX5_showPair_1 ?_
  obtain ⟨hp, hq⟩ := hq
  refine w_cV hH (w_rV (As := []) (rest := []) hX hK hE hH (c_X0_bringHome (sf5_6 sh0)  _ hp) ck0 (sf5_6 sh0) q2_4 q2_5 q2_6 q1_3 q2_7 hd_X0_bringHome ⟨Nat.le_of_ble_eq_true rfl, Nat.le_of_ble_eq_true rfl⟩ ⟨rfl, rfl⟩ rfl hl.1 rfl (Nat.le_of_ble_eq_true rfl) dX5_showPair_4 ⟨Nat.zero_le _, Nat.zero_le _⟩) (fun  I1 H locs hpo hH => ?_)
  have hq := hq  I1 hpo
  refine lv_aload_n hx hb dX5_showPair_7 rfl (lv_at hl 0 rfl) ?_
  refine w_getr hX hK hH ck5 sh0 0 1 1 fr5_0 rfl q1_178 dX5_showPair_8 ?_
  refine w_getrN hX hK hE hH ck3 (sf5_0 sh0) 1 4 5 fr3_1 rfl qn1_64 dX5_showPair_11 ?_
  refine lv_aload_n hx hb dX5_showPair_14 rfl (lv_at hl 0 rfl) ?_
  refine w_getr hX hK hH ck5 sh0 6 30 30 fr5_6 rfl q1_184 dX5_showPair_15 ?_
  refine lv_iload_n hx hb dX5_showPair_18 rfl (lv_at hl 1 rfl) ?_
  refine lv_iconst (v := 0) hx hb dX5_showPair_19 (by decide) ?_
  obtain ⟨hp, hq⟩ := hq
  refine w_cIp hH (w_rS (As := [.int x1, .int (0 : Int32)]) (rest := [.ref (b + 30), .ref (b + 5)]) hX hK hE hH (c_X5_moveOf  _ _ _ hp) q2_81 q2_54 q1_1 q2_55 hd_X5_moveOf.2 ⟨Nat.le_of_ble_eq_true rfl, Nat.le_of_ble_eq_true rfl⟩ ⟨rfl, rfl⟩ rfl hl.1 rfl (Nat.le_of_ble_eq_true rfl) dX5_showPair_20 ⟨Nat.zero_le _, Nat.zero_le _⟩) (fun r2  H locs hpo hH => ?_)
  have hq := hq r2  hpo
  obtain ⟨hp, hq⟩ := hq
  refine w_cV hH (w_rV (As := [.ref (b + 30), .int r2]) (rest := []) hX hK hE hH (c_X1_move (sf3_1 (sf5_0 sh0)) (sf5_6 sh0) _ _ hp) ck1 (sf3_1 (sf5_0 sh0)) q2_94 q2_95 q2_96 q1_4 q2_97 hd_X1_move ⟨Nat.le_of_ble_eq_true rfl, Nat.le_of_ble_eq_true rfl⟩ ⟨rfl, rfl⟩ rfl hl.1 rfl (Nat.le_of_ble_eq_true rfl) dX5_showPair_23 ⟨Nat.zero_le _, Nat.zero_le _⟩) (fun  I3 H locs hpo hH => ?_)
  have hq := hq  I3 hpo
  refine lv_aload_n hx hb dX5_showPair_26 rfl (lv_at hl 0 rfl) ?_
  refine w_getr hX hK hH ck5 sh0 0 1 1 fr5_0 rfl q1_178 dX5_showPair_27 ?_
  refine w_getrN hX hK hE hH ck3 (sf5_0 sh0) 1 4 5 fr3_1 rfl qn1_64 dX5_showPair_30 ?_
  refine lv_aload_n hx hb dX5_showPair_33 rfl (lv_at hl 0 rfl) ?_
  refine w_getr hX hK hH ck5 sh0 6 30 30 fr5_6 rfl q1_184 dX5_showPair_34 ?_
  refine lv_iload_n hx hb dX5_showPair_37 rfl (lv_at hl 2 rfl) ?_
  refine lv_iconst (v := 0) hx hb dX5_showPair_38 (by decide) ?_
  obtain ⟨hp, hq⟩ := hq
  refine w_cIp hH (w_rS (As := [.int x2, .int (0 : Int32)]) (rest := [.ref (b + 30), .ref (b + 5)]) hX hK hE hH (c_X5_moveOf  _ _ _ hp) q2_81 q2_54 q1_1 q2_55 hd_X5_moveOf.2 ⟨Nat.le_of_ble_eq_true rfl, Nat.le_of_ble_eq_true rfl⟩ ⟨rfl, rfl⟩ rfl hl.1 rfl (Nat.le_of_ble_eq_true rfl) dX5_showPair_39 ⟨Nat.zero_le _, Nat.zero_le _⟩) (fun r4  H locs hpo hH => ?_)
  have hq := hq r4  hpo
  obtain ⟨hp, hq⟩ := hq
  refine w_cV hH (w_rV (As := [.ref (b + 30), .int r4]) (rest := []) hX hK hE hH (c_X1_move (sf3_1 (sf5_0 sh0)) (sf5_6 sh0) _ _ hp) ck1 (sf3_1 (sf5_0 sh0)) q2_94 q2_95 q2_96 q1_4 q2_97 hd_X1_move ⟨Nat.le_of_ble_eq_true rfl, Nat.le_of_ble_eq_true rfl⟩ ⟨rfl, rfl⟩ rfl hl.1 rfl (Nat.le_of_ble_eq_true rfl) dX5_showPair_42 ⟨Nat.zero_le _, Nat.zero_le _⟩) (fun  I5 H locs hpo hH => ?_)
  have hq := hq  I5 hpo
  refine lv_aload_n hx hb dX5_showPair_45 rfl (lv_at hl 0 rfl) ?_
  refine w_getr hX hK hH ck5 sh0 0 1 1 fr5_0 rfl q1_178 dX5_showPair_46 ?_
  refine w_getrN hX hK hE hH ck3 (sf5_0 sh0) 1 4 5 fr3_1 rfl qn1_64 dX5_showPair_49 ?_
  refine lv_aload_n hx hb dX5_showPair_52 rfl (lv_at hl 0 rfl) ?_
  refine w_getr hX hK hH ck5 sh0 6 30 30 fr5_6 rfl q1_184 dX5_showPair_53 ?_
  refine lv_iload_n hx hb dX5_showPair_56 rfl (lv_at hl 1 rfl) ?_
  refine lv_iconst (v := 1) hx hb dX5_showPair_57 (by decide) ?_
  obtain ⟨hp, hq⟩ := hq
  refine w_cIp hH (w_rS (As := [.int x1, .int (1 : Int32)]) (rest := [.ref (b + 30), .ref (b + 5)]) hX hK hE hH (c_X5_moveOf  _ _ _ hp) q2_81 q2_54 q1_1 q2_55 hd_X5_moveOf.2 ⟨Nat.le_of_ble_eq_true rfl, Nat.le_of_ble_eq_true rfl⟩ ⟨rfl, rfl⟩ rfl hl.1 rfl (Nat.le_of_ble_eq_true rfl) dX5_showPair_58 ⟨Nat.zero_le _, Nat.zero_le _⟩) (fun r6  H locs hpo hH => ?_)
  have hq := hq r6  hpo
  obtain ⟨hp, hq⟩ := hq
  refine w_cV hH (w_rV (As := [.ref (b + 30), .int r6]) (rest := []) hX hK hE hH (c_X1_move (sf3_1 (sf5_0 sh0)) (sf5_6 sh0) _ _ hp) ck1 (sf3_1 (sf5_0 sh0)) q2_94 q2_95 q2_96 q1_4 q2_97 hd_X1_move ⟨Nat.le_of_ble_eq_true rfl, Nat.le_of_ble_eq_true rfl⟩ ⟨rfl, rfl⟩ rfl hl.1 rfl (Nat.le_of_ble_eq_true rfl) dX5_showPair_61 ⟨Nat.zero_le _, Nat.zero_le _⟩) (fun  I7 H locs hpo hH => ?_)
  have hq := hq  I7 hpo
  refine lv_aload_n hx hb dX5_showPair_64 rfl (lv_at hl 0 rfl) ?_
  refine w_getr hX hK hH ck5 sh0 0 1 1 fr5_0 rfl q1_178 dX5_showPair_65 ?_
  refine w_getrN hX hK hE hH ck3 (sf5_0 sh0) 1 4 5 fr3_1 rfl qn1_64 dX5_showPair_68 ?_
  refine lv_aload_n hx hb dX5_showPair_71 rfl (lv_at hl 0 rfl) ?_
  refine w_getr hX hK hH ck5 sh0 6 30 30 fr5_6 rfl q1_184 dX5_showPair_72 ?_
  refine lv_iload_n hx hb dX5_showPair_75 rfl (lv_at hl 2 rfl) ?_
  refine lv_iconst (v := 1) hx hb dX5_showPair_76 (by decide) ?_
  obtain ⟨hp, hq⟩ := hq
  refine w_cIp hH (w_rS (As := [.int x2, .int (1 : Int32)]) (rest := [.ref (b + 30), .ref (b + 5)]) hX hK hE hH (c_X5_moveOf  _ _ _ hp) q2_81 q2_54 q1_1 q2_55 hd_X5_moveOf.2 ⟨Nat.le_of_ble_eq_true rfl, Nat.le_of_ble_eq_true rfl⟩ ⟨rfl, rfl⟩ rfl hl.1 rfl (Nat.le_of_ble_eq_true rfl) dX5_showPair_77 ⟨Nat.zero_le _, Nat.zero_le _⟩) (fun r8  H locs hpo hH => ?_)
  have hq := hq r8  hpo
  obtain ⟨hp, hq⟩ := hq
  refine w_cV hH (w_rV (As := [.ref (b + 30), .int r8]) (rest := []) hX hK hE hH (c_X1_move (sf3_1 (sf5_0 sh0)) (sf5_6 sh0) _ _ hp) ck1 (sf3_1 (sf5_0 sh0)) q2_94 q2_95 q2_96 q1_4 q2_97 hd_X1_move ⟨Nat.le_of_ble_eq_true rfl, Nat.le_of_ble_eq_true rfl⟩ ⟨rfl, rfl⟩ rfl hl.1 rfl (Nat.le_of_ble_eq_true rfl) dX5_showPair_80 ⟨Nat.zero_le _, Nat.zero_le _⟩) (fun  I9 H locs hpo hH => ?_)
  have hq := hq  I9 hpo
  exact w_eV hX hr hlk hH hq dX5_showPair_83
abbrev rm_J_min : Room := { frames := 0, cells := 0, slots := 0, locals := 0 }
theorem hd_J_min : yJ9_min_7cf53.cls = RJ9 ∧ yJ9_min_7cf53.cls ≠ "java/lang/invoke/MethodHandle" ∧ yJ9_min_7cf53.cls ≠ "java/lang/invoke/VarHandle" ∧ (parseMethodDescriptor yJ9_min_7cf53.desc).map (fun d => d.parameters.length) = some 2 := by decide +kernel
set_option maxRecDepth 100000 in
set_option maxHeartbeats 4000000 in
theorem s_J_min_10 {x0 : Int32} {x1 : Int32} {I : wI} {Q : Int32 → Prop} (C0 : wCx p m c s args meth cJ9_min_7cf53 2 RJ9 (some .int) D cs ad b) : ∀ (t0 : Int32) (H : Heap) (locs : List Loc) (ls : Array Slot), v_J_min_10 x0 x1 I Q t0 → wH D cs b G I s H locs → lv_has ls 2 [] → W p l e rm_J_min s m args below meth c H locs 0 0 (MQ below (va_Qi (fun r I' => I' = I ∧ Q r) (wPo D cs b G) (fun q => b ≤ q)) args s 0 0 (fun q => b ≤ q)) (F0 m 10 ls [.int t0]) := by
  obtain ⟨hX, hr, hlk, hK, hE⟩ := id C0
  have hx := hX.1
  have hb := hX.2.1
  have hown := hX.2.2.2.1
  have hts := hX.2.2.2.2
  intro t0 H locs ls hq hH hl
  unfold v_J_min_10 at hq
  exact w_eI hX hr hlk hH ⟨rfl, hq⟩ dJ9_min_7cf53_10
set_option maxRecDepth 100000 in
set_option maxHeartbeats 4000000 in
theorem c_J_min {l : Launch} {D : va_G} {cs : wC4} {ad : Nat → Nat} {b : Nat} {G : wG} (x0 : Int32) (x1 : Int32) (I : wI) (hp : pre_J_min x0 x1 I) : Met l yJ9_min_7cf53 (ws_ yJ9_min_7cf53 cJ9_min_7cf53 2 (some .int)) rm_J_min (va_Pc [.int x0, .int x1] (wPr D cs ad b G I)) (va_Qi (fun r I' => I' = I ∧ post_J_min x0 x1 I r) (wPo D cs b G) (fun q => b ≤ q)) 0 0 (fun q => b ≤ q) := by
  have hq := vc_J_min x0 x1 I hp
  refine w_metF (by decide +kernel) (Nat.le_of_ble_eq_true rfl) ?_
  intro p e s m below meth c hX hr hlk hK hE hH ls hl
  have C0 : wCx p m c s _ meth cJ9_min_7cf53 2 RJ9 (some .int) D cs ad b := ⟨hX, hr, hlk, hK, hE⟩
  have hX : CallFix p m c cJ9_min_7cf53 2 s _ lw_all RJ9 := hX
  have hx := hX.1
  have hb := hX.2.1
  have hown := hX.2.2.2.1
  have hts := hX.2.2.2.2
  have hl : lv_has ls 2 [(0, .int x0), (1, .int x1)] := hl
  unfold v_J_min at hq
  refine lv_iload_n hx hb dJ9_min_7cf53_0 rfl (lv_at hl 0 rfl) ?_
  refine lv_iload_n hx hb dJ9_min_7cf53_1 rfl (lv_at hl 1 rfl) ?_
  refine lv_icmp_gt (tgt := 9) hx hb dJ9_min_7cf53_2 (by decide) (fun hc => ?_) (fun hc => ?_)
  · have hq := hq.1 hc
    refine lv_iload_n hx hb dJ9_min_7cf53_9 rfl (lv_at hl 1 rfl) ?_
    exact s_J_min_10  C0  x1 _ _ _ hq hH (lv_sub hl [] rfl)
  · have hq := hq.2 hc
    refine lv_iload_n hx hb dJ9_min_7cf53_5 rfl (lv_at hl 0 rfl) ?_
    refine lv_goto (tgt := 10) hx hb dJ9_min_7cf53_6 (by decide) ?_
    exact s_J_min_10  C0  x0 _ _ _ hq hH (lv_sub hl [] rfl)
abbrev rm_X4_turnsLessBacks : Room := { frames := 1, cells := 0, slots := 0, locals := 20 }
theorem hd_X4_turnsLessBacks : yX4_turnsLessBacks.cls = RX4 ∧ yX4_turnsLessBacks.cls ≠ "java/lang/invoke/MethodHandle" ∧ yX4_turnsLessBacks.cls ≠ "java/lang/invoke/VarHandle" ∧ (parseMethodDescriptor yX4_turnsLessBacks.desc).map (fun d => d.parameters.length) = some 0 := by decide +kernel
set_option maxRecDepth 100000 in
set_option maxHeartbeats 4000000 in
theorem s_X4_turnsLessBacks_45 {k : Nat} {I : wI} {Q : Int32 → Prop} (hs : wSh k = (0, 4)) (C0 : wCx p m c s args meth cX4_turnsLessBacks 3 RX4 (some .int) D cs ad b) : ∀ (v1 : Int32) (H : Heap) (locs : List Loc) (ls : Array Slot), v_X4_turnsLessBacks_45 k I Q v1 → wH D cs b G I s H locs → lv_has ls 3 [(1, .int v1)] → W p l e rm_X4_turnsLessBacks s m args below meth c H locs 0 0 (MQ below (va_Qi (fun r I' => I' = I ∧ Q r) (wPo D cs b G) (fun q => b ≤ q)) args s 0 0 (fun q => b ≤ q)) (F0 m 45 ls []) := by
  obtain ⟨hX, hr, hlk, hK, hE⟩ := id C0
  have hx := hX.1
  have hb := hX.2.1
  have hown := hX.2.2.2.1
  have hts := hX.2.2.2.2
  intro v1 H locs ls hq hH hl
  unfold v_X4_turnsLessBacks_45 at hq
  refine lv_iload_n hx hb dX4_turnsLessBacks_45 rfl (lv_at hl 0 rfl) ?_
  exact w_eI hX hr hlk hH ⟨rfl, hq⟩ dX4_turnsLessBacks_46
set_option maxRecDepth 100000 in
set_option maxHeartbeats 4000000 in
theorem s_X4_turnsLessBacks_37 {k : Nat} {I : wI} {Q : Int32 → Prop} {K4 : Int32 → Int32 → Prop} (hs : wSh k = (0, 4)) (C0 : wCx p m c s args meth cX4_turnsLessBacks 3 RX4 (some .int) D cs ad b) (hK4 : ∀ (v1 : Int32) (v2 : Int32) (H : Heap) (locs : List Loc) (ls : Array Slot), K4 v1 v2 → wH D cs b G I s H locs → lv_has ls 3 [(0, .ref (b + k)), (1, .int v1), (2, .int v2)] → W p l e rm_X4_turnsLessBacks s m args below meth c H locs 0 0 (MQ below (va_Qi (fun r I' => I' = I ∧ Q r) (wPo D cs b G) (fun q => b ≤ q)) args s 0 0 (fun q => b ≤ q)) (F0 m 4 ls [])) : ∀ (v2 : Int32) (t0 : Int32) (t1 : Int32) (H : Heap) (locs : List Loc) (ls : Array Slot), v_X4_turnsLessBacks_37 k I Q K4 v2 t0 t1 → wH D cs b G I s H locs → lv_has ls 3 [(0, .ref (b + k)), (2, .int v2)] → W p l e rm_X4_turnsLessBacks s m args below meth c H locs 0 0 (MQ below (va_Qi (fun r I' => I' = I ∧ Q r) (wPo D cs b G) (fun q => b ≤ q)) args s 0 0 (fun q => b ≤ q)) (F0 m 37 ls [.int t0, .int t1]) := by
  obtain ⟨hX, hr, hlk, hK, hE⟩ := id C0
  have hx := hX.1
  have hb := hX.2.1
  have hown := hX.2.2.2.1
  have hts := hX.2.2.2.2
  intro v2 t0 t1 H locs ls hq hH hl
  unfold v_X4_turnsLessBacks_37 at hq
  refine lv_iadd hx hb dX4_turnsLessBacks_37 ?_
  refine lv_istore_n (lv' := [(1, .int (t1 + t0)), (0, .ref (b + k)), (2, .int v2)]) hx hb dX4_turnsLessBacks_38 rfl hl (by decide) rfl (fun ls hl => ?_)
  refine lv_iinc (v := (v2 + (1 : Int32))) (lv' := [(2, .int (v2 + (1 : Int32))), (1, .int (t1 + t0)), (0, .ref (b + k))]) hx hb dX4_turnsLessBacks_39 hl (k := 2) rfl rfl (by decide) rfl (fun ls hl => ?_)
  refine lv_goto (tgt := 4) hx hb dX4_turnsLessBacks_42 (by decide) ?_
  exact hK4 (t1 + t0) (v2 + (1 : Int32)) _ _ _ hq hH (lv_sub hl [2, 1, 0] rfl)
set_option maxRecDepth 100000 in
set_option maxHeartbeats 4000000 in
theorem s_X4_turnsLessBacks_4 {k : Nat} {I : wI} {Q : Int32 → Prop} (hs : wSh k = (0, 4)) (C0 : wCx p m c s args meth cX4_turnsLessBacks 3 RX4 (some .int) D cs ad b) : ∀ (f : Nat) (v1 : Int32) (v2 : Int32) (H : Heap) (locs : List Loc) (ls : Array Slot), v_X4_turnsLessBacks_4 k I Q f v1 v2 → wH D cs b G I s H locs → lv_has ls 3 [(0, .ref (b + k)), (1, .int v1), (2, .int v2)] → W p l e rm_X4_turnsLessBacks s m args below meth c H locs 0 0 (MQ below (va_Qi (fun r I' => I' = I ∧ Q r) (wPo D cs b G) (fun q => b ≤ q)) args s 0 0 (fun q => b ≤ q)) (F0 m 4 ls []) := by
  obtain ⟨hX, hr, hlk, hK, hE⟩ := id C0
  have hx := hX.1
  have hb := hX.2.1
  have hown := hX.2.2.2.1
  have hts := hX.2.2.2.2
  intro f
  induction f with
  | zero =>
    intro v1 v2 H locs ls hq
    exact hq.elim
  | succ f hK4 =>
    intro v1 v2 H locs ls hq hH hl
    have hq : g_X4_turnsLessBacks_4 k I Q (v_X4_turnsLessBacks_4 k I Q f) v1 v2 := hq
    unfold g_X4_turnsLessBacks_4 at hq
    refine lv_iload_n hx hb dX4_turnsLessBacks_4 rfl (lv_at hl 2 rfl) ?_
    refine lv_aload_n hx hb dX4_turnsLessBacks_5 rfl (lv_at hl 0 rfl) ?_
    refine w_geti hX hK hH ck4 hs 3 fi4_3 q1_110 dX4_turnsLessBacks_6 ?_
    refine lv_icmp_ge (tgt := 45) hx hb dX4_turnsLessBacks_9 (by decide) (fun hc => ?_) (fun hc => ?_)
    · have hq := hq.1 hc
      exact s_X4_turnsLessBacks_45 hs C0  v1 _ _ _ hq hH (lv_sub hl [1] rfl)
    · have hq := hq.2 hc
      refine lv_iload_n hx hb dX4_turnsLessBacks_12 rfl (lv_at hl 2 rfl) ?_
      refine lv_sipush (v := 500) hx hb dX4_turnsLessBacks_13 (by decide) ?_
      refine lv_icmp_ge (tgt := 45) hx hb dX4_turnsLessBacks_16 (by decide) (fun hc => ?_) (fun hc => ?_)
      · have hq := hq.1 hc
        exact s_X4_turnsLessBacks_45 hs C0  v1 _ _ _ hq hH (lv_sub hl [1] rfl)
      · have hq := hq.2 hc
        refine lv_iload_n hx hb dX4_turnsLessBacks_19 rfl (lv_at hl 1 rfl) ?_
        refine lv_aload_n hx hb dX4_turnsLessBacks_20 rfl (lv_at hl 0 rfl) ?_
        refine w_getr hX hK hH ck4 hs 2 2 (k + 2) fr4_2 rfl q1_109 dX4_turnsLessBacks_21 ?_
        refine lv_iload_n hx hb dX4_turnsLessBacks_24 rfl (lv_at hl 2 rfl) ?_
        obtain ⟨hc, hq⟩ := hq
        refine w_iald hX hK hH (sf4_2 hs) hc dX4_turnsLessBacks_25 ?_
        obtain ⟨hp, hq⟩ := hq
        refine w_cIp hH (w_rSN (As := [.int (I (k + 2) (v2).toNatClampNeg)]) (rest := [.int v1]) hX hK hE hH (c_X5_isBack  _ _ hp) qn4_50 q2_79 q1_1 q2_80 hd_X5_isBack.2 ⟨Nat.le_of_ble_eq_true rfl, Nat.le_of_ble_eq_true rfl⟩ ⟨rfl, rfl⟩ rfl hl.1 rfl (Nat.le_of_ble_eq_true rfl) dX4_turnsLessBacks_26 ⟨Nat.zero_le _, Nat.zero_le _⟩) (fun r1  H locs hpo hH => ?_)
        have hq := hq r1  hpo
        refine lv_if_eq (tgt := 36) hx hb dX4_turnsLessBacks_29 (by decide) (fun hc => ?_) (fun hc => ?_)
        · have hq := hq.1 hc
          refine lv_iconst (v := 1) hx hb dX4_turnsLessBacks_36 (by decide) ?_
          exact s_X4_turnsLessBacks_37 hs C0 hK4 v2 (1 : Int32) v1 _ _ _ hq hH (lv_sub hl [0, 2] rfl)
        · have hq := hq.2 hc
          refine lv_iconst (v := -1) hx hb dX4_turnsLessBacks_32 (by decide) ?_
          refine lv_goto (tgt := 37) hx hb dX4_turnsLessBacks_33 (by decide) ?_
          exact s_X4_turnsLessBacks_37 hs C0 hK4 v2 (-1 : Int32) v1 _ _ _ hq hH (lv_sub hl [0, 2] rfl)
set_option maxRecDepth 100000 in
set_option maxHeartbeats 4000000 in
theorem c_X4_turnsLessBacks {l : Launch} {D : va_G} {cs : wC4} {ad : Nat → Nat} {b : Nat} {G : wG} {k : Nat} (hs : wSh k = (0, 4))  (I : wI) (hp : pre_X4_turnsLessBacks k I) : Met l yX4_turnsLessBacks (ws_ yX4_turnsLessBacks cX4_turnsLessBacks 3 (some .int)) rm_X4_turnsLessBacks (va_Pc [.ref (b + k)] (wPr D cs ad b G I)) (va_Qi (fun r I' => I' = I ∧ post_X4_turnsLessBacks k I r) (wPo D cs b G) (fun q => b ≤ q)) 0 0 (fun q => b ≤ q) := by
  have hq := vc_X4_turnsLessBacks k hs I hp
  refine w_met (by decide) (Nat.le_of_ble_eq_true rfl) ?_
  intro p e s m below meth c hX hr hlk hK hE hH ls hl
  have C0 : wCx p m c s _ meth cX4_turnsLessBacks 3 RX4 (some .int) D cs ad b := ⟨hX, hr, hlk, hK, hE⟩
  have hX : CallFix p m c cX4_turnsLessBacks 3 s _ lw_all RX4 := hX
  have hx := hX.1
  have hb := hX.2.1
  have hown := hX.2.2.2.1
  have hts := hX.2.2.2.2
  have hl : lv_has ls 3 [(0, .ref (b + k))] := hl
  unfold v_X4_turnsLessBacks at hq
  refine lv_iconst (v := 0) hx hb dX4_turnsLessBacks_0 (by decide) ?_
  refine lv_istore_n (lv' := [(1, .int (0 : Int32)), (0, .ref (b + k))]) hx hb dX4_turnsLessBacks_1 rfl hl (by decide) rfl (fun ls hl => ?_)
  refine lv_iconst (v := 0) hx hb dX4_turnsLessBacks_2 (by decide) ?_
  refine lv_istore_n (lv' := [(2, .int (0 : Int32)), (1, .int (0 : Int32)), (0, .ref (b + k))]) hx hb dX4_turnsLessBacks_3 rfl hl (by decide) rfl (fun ls hl => ?_)
  obtain ⟨f, hq⟩ := hq
  exact s_X4_turnsLessBacks_4 hs C0  f (0 : Int32) (0 : Int32) _ _ _ hq hH (lv_sub hl [2, 1, 0] rfl)
abbrev rm_X5_showWord : Room := { frames := 2, cells := 0, slots := 0, locals := 54 }
theorem hd_X5_showWord : yX5_showWord.cls = RX5 ∧ yX5_showWord.cls ≠ "java/lang/invoke/MethodHandle" ∧ yX5_showWord.cls ≠ "java/lang/invoke/VarHandle" ∧ (parseMethodDescriptor yX5_showWord.desc).map (fun d => d.parameters.length) = some 0 := by decide +kernel
set_option maxRecDepth 100000 in
set_option maxHeartbeats 4000000 in
theorem s_X5_showWord_55 {Q : wI → Prop} (C0 : wCx p m c s args meth cX5_showWord 2 RX5 none D cs ad b) : ∀  (I : wI) (H : Heap) (locs : List Loc) (ls : Array Slot), v_X5_showWord_55 Q  I → wH D cs b G I s H locs → lv_has ls 2 [] → W p l e rm_X5_showWord s m args below meth c H locs 0 0 (MQ below (va_Qv (Q) (wPo D cs b G) (fun q => b ≤ q)) args s 0 0 (fun q => b ≤ q)) (F0 m 55 ls []) := by
  obtain ⟨hX, hr, hlk, hK, hE⟩ := id C0
  have hx := hX.1
  have hb := hX.2.1
  have hown := hX.2.2.2.1
  have hts := hX.2.2.2.2
  intro  I H locs ls hq hH hl
  unfold v_X5_showWord_55 at hq
  exact w_eV hX hr hlk hH hq dX5_showWord_55
set_option maxRecDepth 100000 in
set_option maxHeartbeats 4000000 in
theorem s_X5_showWord_9 {Q : wI → Prop} (C0 : wCx p m c s args meth cX5_showWord 2 RX5 none D cs ad b) : ∀ (f : Nat) (v1 : Int32) (I : wI) (H : Heap) (locs : List Loc) (ls : Array Slot), v_X5_showWord_9 Q f v1 I → wH D cs b G I s H locs → lv_has ls 2 [(0, .ref (b + 0)), (1, .int v1)] → W p l e rm_X5_showWord s m args below meth c H locs 0 0 (MQ below (va_Qv (Q) (wPo D cs b G) (fun q => b ≤ q)) args s 0 0 (fun q => b ≤ q)) (F0 m 9 ls []) := by
  obtain ⟨hX, hr, hlk, hK, hE⟩ := id C0
  have hx := hX.1
  have hb := hX.2.1
  have hown := hX.2.2.2.1
  have hts := hX.2.2.2.2
  intro f
  induction f with
  | zero =>
    intro v1 I H locs ls hq
    exact hq.elim
  | succ f hK9 =>
    intro v1 I H locs ls hq hH hl
    have hq : g_X5_showWord_9 Q (v_X5_showWord_9 Q f) v1 I := hq
    unfold g_X5_showWord_9 at hq
    refine lv_iload_n hx hb dX5_showWord_9 rfl (lv_at hl 1 rfl) ?_
    refine lv_aload_n hx hb dX5_showWord_10 rfl (lv_at hl 0 rfl) ?_
    refine w_getr hX hK hH ck5 sh0 5 24 24 fr5_5 rfl q1_183 dX5_showWord_11 ?_
    refine w_getiN hX hK hE hH ck4 (sf5_5 sh0) 3 fi4_3 qn1_111 dX5_showWord_14 ?_
    refine lv_icmp_ge (tgt := 55) hx hb dX5_showWord_17 (by decide) (fun hc => ?_) (fun hc => ?_)
    · have hq := hq.1 hc
      exact s_X5_showWord_55  C0   _ _ _ _ hq hH (lv_sub hl [] rfl)
    · have hq := hq.2 hc
      refine lv_iload_n hx hb dX5_showWord_20 rfl (lv_at hl 1 rfl) ?_
      refine lv_sipush (v := 500) hx hb dX5_showWord_21 (by decide) ?_
      refine lv_icmp_ge (tgt := 55) hx hb dX5_showWord_24 (by decide) (fun hc => ?_) (fun hc => ?_)
      · have hq := hq.1 hc
        exact s_X5_showWord_55  C0   _ _ _ _ hq hH (lv_sub hl [] rfl)
      · have hq := hq.2 hc
        refine lv_aload_n hx hb dX5_showWord_27 rfl (lv_at hl 0 rfl) ?_
        refine w_getr hX hK hH ck5 sh0 0 1 1 fr5_0 rfl q1_178 dX5_showWord_28 ?_
        refine w_getrN hX hK hE hH ck3 (sf5_0 sh0) 1 4 5 fr3_1 rfl qn1_64 dX5_showWord_31 ?_
        refine lv_aload_n hx hb dX5_showWord_34 rfl (lv_at hl 0 rfl) ?_
        refine w_getr hX hK hH ck5 sh0 6 30 30 fr5_6 rfl q1_184 dX5_showWord_35 ?_
        refine lv_aload_n hx hb dX5_showWord_38 rfl (lv_at hl 0 rfl) ?_
        refine w_getr hX hK hH ck5 sh0 5 24 24 fr5_5 rfl q1_183 dX5_showWord_39 ?_
        refine lv_iload_n hx hb dX5_showWord_42 rfl (lv_at hl 1 rfl) ?_
        obtain ⟨hp, hq⟩ := hq
        refine w_cIp hH (w_rV (As := [.int v1]) (rest := [.ref (b + 30), .ref (b + 5)]) hX hK hE hH (c_X4_moveAt (sf5_5 sh0) _ _ hp) ck4 (sf5_5 sh0) q3_208 q2_46 q2_47 q1_5 q2_48 hd_X4_moveAt ⟨Nat.le_of_ble_eq_true rfl, Nat.le_of_ble_eq_true rfl⟩ ⟨rfl, rfl⟩ rfl hl.1 rfl (Nat.le_of_ble_eq_true rfl) dX5_showWord_43 ⟨Nat.zero_le _, Nat.zero_le _⟩) (fun r1  H locs hpo hH => ?_)
        have hq := hq r1  hpo
        obtain ⟨hp, hq⟩ := hq
        refine w_cV hH (w_rV (As := [.ref (b + 30), .int r1]) (rest := []) hX hK hE hH (c_X1_move (sf3_1 (sf5_0 sh0)) (sf5_6 sh0) _ _ hp) ck1 (sf3_1 (sf5_0 sh0)) q2_94 q2_95 q2_96 q1_4 q2_97 hd_X1_move ⟨Nat.le_of_ble_eq_true rfl, Nat.le_of_ble_eq_true rfl⟩ ⟨rfl, rfl⟩ rfl hl.1 rfl (Nat.le_of_ble_eq_true rfl) dX5_showWord_46 ⟨Nat.zero_le _, Nat.zero_le _⟩) (fun  I2 H locs hpo hH => ?_)
        have hq := hq  I2 hpo
        refine lv_iinc (v := (v1 + (1 : Int32))) (lv' := [(1, .int (v1 + (1 : Int32))), (0, .ref (b + 0))]) hx hb dX5_showWord_49 hl (k := 1) rfl rfl (by decide) rfl (fun ls hl => ?_)
        refine lv_goto (tgt := 9) hx hb dX5_showWord_52 (by decide) ?_
        exact hK9 (v1 + (1 : Int32)) _ _ _ _ hq hH (lv_sub hl [1, 0] rfl)
set_option maxRecDepth 100000 in
set_option maxHeartbeats 4000000 in
theorem c_X5_showWord {l : Launch} {D : va_G} {cs : wC4} {ad : Nat → Nat} {b : Nat} {G : wG}  (I : wI) (hp : pre_X5_showWord  I) : Met l yX5_showWord (ws_ yX5_showWord cX5_showWord 2 none) rm_X5_showWord (va_Pc [.ref (b + 0)] (wPr D cs ad b G I)) (va_Qv (fun I' => post_X5_showWord  I I') (wPo D cs b G) (fun q => b ≤ q)) 0 0 (fun q => b ≤ q) := by
  have hq := vc_X5_showWord  I hp
  refine w_met (by decide) (Nat.le_of_ble_eq_true rfl) ?_
  intro p e s m below meth c hX hr hlk hK hE hH ls hl
  have C0 : wCx p m c s _ meth cX5_showWord 2 RX5 none D cs ad b := ⟨hX, hr, hlk, hK, hE⟩
  have hX : CallFix p m c cX5_showWord 2 s _ lw_all RX5 := hX
  have hx := hX.1
  have hb := hX.2.1
  have hown := hX.2.2.2.1
  have hts := hX.2.2.2.2
  have hl : lv_has ls 2 [(0, .ref (b + 0))] := hl
  unfold v_X5_showWord at hq
  refine lv_aload_n hx hb dX5_showWord_0 rfl (lv_at hl 0 rfl) ?_
  refine w_getr hX hK hH ck5 sh0 6 30 30 fr5_6 rfl q1_184 dX5_showWord_1 ?_
  obtain ⟨hp, hq⟩ := hq
  refine w_cV hH (w_rV (As := []) (rest := []) hX hK hE hH (c_X0_bringHome (sf5_6 sh0)  _ hp) ck0 (sf5_6 sh0) q2_4 q2_5 q2_6 q1_3 q2_7 hd_X0_bringHome ⟨Nat.le_of_ble_eq_true rfl, Nat.le_of_ble_eq_true rfl⟩ ⟨rfl, rfl⟩ rfl hl.1 rfl (Nat.le_of_ble_eq_true rfl) dX5_showWord_4 ⟨Nat.zero_le _, Nat.zero_le _⟩) (fun  I1 H locs hpo hH => ?_)
  have hq := hq  I1 hpo
  refine lv_iconst (v := 0) hx hb dX5_showWord_7 (by decide) ?_
  refine lv_istore_n (lv' := [(1, .int (0 : Int32)), (0, .ref (b + 0))]) hx hb dX5_showWord_8 rfl hl (by decide) rfl (fun ls hl => ?_)
  obtain ⟨f, hq⟩ := hq
  exact s_X5_showWord_9  C0  f (0 : Int32) _ _ _ _ hq hH (lv_sub hl [1, 0] rfl)
abbrev rm_X5_ofShortWord : Room := { frames := 3, cells := 0, slots := 0, locals := 75 }
theorem hd_X5_ofShortWord : yX5_ofShortWord.cls = RX5 ∧ yX5_ofShortWord.cls ≠ "java/lang/invoke/MethodHandle" ∧ yX5_ofShortWord.cls ≠ "java/lang/invoke/VarHandle" ∧ (parseMethodDescriptor yX5_ofShortWord.desc).map (fun d => d.parameters.length) = some 1 := by decide +kernel
set_option maxRecDepth 100000 in
set_option maxHeartbeats 4000000 in
theorem c_X5_ofShortWord {l : Launch} {D : va_G} {cs : wC4} {ad : Nat → Nat} {b : Nat} {G : wG} (x1 : Int32) (I : wI) (hp : pre_X5_ofShortWord x1 I) : Met l yX5_ofShortWord (ws_ yX5_ofShortWord cX5_ofShortWord 2 (some .int)) rm_X5_ofShortWord (va_Pc [.ref (b + 0), .int x1] (wPr D cs ad b G I)) (va_Qi (fun r I' => post_X5_ofShortWord x1 I r I') (wPo D cs b G) (fun q => b ≤ q)) 0 0 (fun q => b ≤ q) := by
  have hq := vc_X5_ofShortWord x1 I hp
  refine w_met (by decide) (Nat.le_of_ble_eq_true rfl) ?_
  intro p e s m below meth c hX hr hlk hK hE hH ls hl
  have C0 : wCx p m c s _ meth cX5_ofShortWord 2 RX5 (some .int) D cs ad b := ⟨hX, hr, hlk, hK, hE⟩
  have hX : CallFix p m c cX5_ofShortWord 2 s _ lw_all RX5 := hX
  have hx := hX.1
  have hb := hX.2.1
  have hown := hX.2.2.2.1
  have hts := hX.2.2.2.2
  have hl : lv_has ls 2 [(0, .ref (b + 0)), (1, .int x1)] := hl
  unfold v_X5_ofShortWord at hq
  refine lv_iload_n hx hb dX5_ofShortWord_0 rfl (lv_at hl 1 rfl) ?_
  refine lv_iconst (v := 4) hx hb dX5_ofShortWord_1 (by decide) ?_
  refine lv_icmp_ne (tgt := 13) hx hb dX5_ofShortWord_2 (by decide) (fun hc => ?_) (fun hc => ?_)
  · have hq := hq.1 hc
    refine lv_aload_n hx hb dX5_ofShortWord_13 rfl (lv_at hl 0 rfl) ?_
    obtain ⟨hp, hq⟩ := hq
    refine w_cV hH (w_rV (As := []) (rest := []) hX hK hE hH (c_X5_showWord   _ hp) ck5 sh0 q4_51 q4_53 qs28 q1_1 q4_54 hd_X5_showWord ⟨Nat.le_of_ble_eq_true rfl, Nat.le_of_ble_eq_true rfl⟩ ⟨rfl, rfl⟩ rfl hl.1 rfl (Nat.le_of_ble_eq_true rfl) dX5_ofShortWord_14 ⟨Nat.zero_le _, Nat.zero_le _⟩) (fun  I1 H locs hpo hH => ?_)
    have hq := hq  I1 hpo
    refine lv_iload_n hx hb dX5_ofShortWord_17 rfl (lv_at hl 1 rfl) ?_
    by_cases hc0 : x1 = (1 : Int32)
    · have hq := hq.1 hc0
      refine lv_lookup (tgt := 44) hx hb dX5_ofShortWord_18 (by decide) (by first | (rw [hc0]; done) | (rw [hc0]; rfl)) (by decide) ?_
      refine lv_aload_n hx hb dX5_ofShortWord_44 rfl (lv_at hl 0 rfl) ?_
      refine w_getr hX hK hH ck5 sh0 6 30 30 fr5_6 rfl q1_184 dX5_ofShortWord_45 ?_
      obtain ⟨hp, hq⟩ := hq
      refine w_cIp hH (w_rV (As := []) (rest := []) hX hK hE hH (c_X0_reach (sf5_6 sh0)  _ hp) ck0 (sf5_6 sh0) q1_234 q1_235 q1_236 q1_3 q1_237 hd_X0_reach ⟨Nat.le_of_ble_eq_true rfl, Nat.le_of_ble_eq_true rfl⟩ ⟨rfl, rfl⟩ rfl hl.1 rfl (Nat.le_of_ble_eq_true rfl) dX5_ofShortWord_48 ⟨Nat.zero_le _, Nat.zero_le _⟩) (fun r2  H locs hpo hH => ?_)
      have hq := hq r2  hpo
      exact w_eI hX hr hlk hH hq dX5_ofShortWord_51
    by_cases hc1 : x1 = (2 : Int32)
    · have hq := hq.2.1 hc1
      refine lv_lookup (tgt := 52) hx hb dX5_ofShortWord_18 (by decide) (by first | (rw [hc1]; done) | (rw [hc1]; rfl)) (by decide) ?_
      refine lv_aload_n hx hb dX5_ofShortWord_52 rfl (lv_at hl 0 rfl) ?_
      obtain ⟨hp, hq⟩ := hq
      refine w_cI hH (w_rV (As := []) (rest := []) hX hK hE hH (c_X5_periodByDoing   _ hp) ck5 sh0 q3_50 q3_52 qs16 q1_1 q3_53 hd_X5_periodByDoing ⟨Nat.le_of_ble_eq_true rfl, Nat.le_of_ble_eq_true rfl⟩ ⟨rfl, rfl⟩ rfl hl.1 rfl (Nat.le_of_ble_eq_true rfl) dX5_ofShortWord_53 ⟨Nat.zero_le _, Nat.zero_le _⟩) (fun r3 I4 H locs hpo hH => ?_)
      have hq := hq r3 I4 hpo
      exact w_eI hX hr hlk hH hq dX5_ofShortWord_56
    have hq := hq.2.2 ⟨hc0, hc1⟩
    have he0 := w_toInt_ne hc0
    have he1 := w_toInt_ne hc1
    refine lv_lookup (tgt := 57) (off := 39) hx hb dX5_ofShortWord_18 (by decide) (by rw [lv_osw (k := 1) hc0 (by decide)]; rw [lv_osw (k := 2) hc1 (by decide)]; rfl) (by decide) ?_
    refine lv_aload_n hx hb dX5_ofShortWord_57 rfl (lv_at hl 0 rfl) ?_
    refine w_getr hX hK hH ck5 sh0 6 30 30 fr5_6 rfl q1_184 dX5_ofShortWord_58 ?_
    obtain ⟨hp, hq⟩ := hq
    refine w_cIp hH (w_rV (As := []) (rest := []) hX hK hE hH (c_X0_periodByRounds (sf5_6 sh0)  _ hp) ck0 (sf5_6 sh0) q3_59 q3_60 q3_61 q1_3 q3_62 hd_X0_periodByRounds ⟨Nat.le_of_ble_eq_true rfl, Nat.le_of_ble_eq_true rfl⟩ ⟨rfl, rfl⟩ rfl hl.1 rfl (Nat.le_of_ble_eq_true rfl) dX5_ofShortWord_61 ⟨Nat.zero_le _, Nat.zero_le _⟩) (fun r5  H locs hpo hH => ?_)
    have hq := hq r5  hpo
    exact w_eI hX hr hlk hH hq dX5_ofShortWord_64
  · have hq := hq.2 hc
    refine lv_aload_n hx hb dX5_ofShortWord_5 rfl (lv_at hl 0 rfl) ?_
    refine w_getr hX hK hH ck5 sh0 5 24 24 fr5_5 rfl q1_183 dX5_ofShortWord_6 ?_
    obtain ⟨hp, hq⟩ := hq
    refine w_cIp hH (w_rV (As := []) (rest := []) hX hK hE hH (c_X4_turnsLessBacks (sf5_5 sh0)  _ hp) ck4 (sf5_5 sh0) q4_46 q4_47 q4_48 q1_5 q4_49 hd_X4_turnsLessBacks ⟨Nat.le_of_ble_eq_true rfl, Nat.le_of_ble_eq_true rfl⟩ ⟨rfl, rfl⟩ rfl hl.1 rfl (Nat.le_of_ble_eq_true rfl) dX5_ofShortWord_9 ⟨Nat.zero_le _, Nat.zero_le _⟩) (fun r6  H locs hpo hH => ?_)
    have hq := hq r6  hpo
    exact w_eI hX hr hlk hH hq dX5_ofShortWord_12
abbrev rm_X0_fingerprint : Room := { frames := 0, cells := 0, slots := 0, locals := 0 }
theorem hd_X0_fingerprint : yX0_fingerprint.cls = RX0 ∧ yX0_fingerprint.cls ≠ "java/lang/invoke/MethodHandle" ∧ yX0_fingerprint.cls ≠ "java/lang/invoke/VarHandle" ∧ (parseMethodDescriptor yX0_fingerprint.desc).map (fun d => d.parameters.length) = some 0 := by decide +kernel
set_option maxRecDepth 100000 in
set_option maxHeartbeats 4000000 in
theorem s_X0_fingerprint_4 {k : Nat} {I : wI} {Q : Int32 → Prop} (hs : wSh k = (0, 0)) (C0 : wCx p m c s args meth cX0_fingerprint 3 RX0 (some .int) D cs ad b) : ∀ (f : Nat) (v1 : Int32) (v2 : Int32) (H : Heap) (locs : List Loc) (ls : Array Slot), v_X0_fingerprint_4 k I Q f v1 v2 → wH D cs b G I s H locs → lv_has ls 3 [(0, .ref (b + k)), (1, .int v1), (2, .int v2)] → W p l e rm_X0_fingerprint s m args below meth c H locs 0 0 (MQ below (va_Qi (fun r I' => I' = I ∧ Q r) (wPo D cs b G) (fun q => b ≤ q)) args s 0 0 (fun q => b ≤ q)) (F0 m 4 ls []) := by
  obtain ⟨hX, hr, hlk, hK, hE⟩ := id C0
  have hx := hX.1
  have hb := hX.2.1
  have hown := hX.2.2.2.1
  have hts := hX.2.2.2.2
  intro f
  induction f with
  | zero =>
    intro v1 v2 H locs ls hq
    exact hq.elim
  | succ f hK4 =>
    intro v1 v2 H locs ls hq hH hl
    have hq : g_X0_fingerprint_4 k I Q (v_X0_fingerprint_4 k I Q f) v1 v2 := hq
    unfold g_X0_fingerprint_4 at hq
    refine lv_iload_n hx hb dX0_fingerprint_4 rfl (lv_at hl 2 rfl) ?_
    refine lv_bipush (v := 6) hx hb dX0_fingerprint_5 (by decide) ?_
    refine lv_icmp_ge (tgt := 37) hx hb dX0_fingerprint_7 (by decide) (fun hc => ?_) (fun hc => ?_)
    · have hq := hq.1 hc
      refine lv_iload_n hx hb dX0_fingerprint_37 rfl (lv_at hl 1 rfl) ?_
      exact w_eI hX hr hlk hH ⟨rfl, hq⟩ dX0_fingerprint_38
    · have hq := hq.2 hc
      refine lv_iload_n hx hb dX0_fingerprint_10 rfl (lv_at hl 1 rfl) ?_
      refine lv_bipush (v := 30) hx hb dX0_fingerprint_11 (by decide) ?_
      refine lv_imul hx hb dX0_fingerprint_13 ?_
      refine lv_aload_n hx hb dX0_fingerprint_14 rfl (lv_at hl 0 rfl) ?_
      refine w_getr hX hK hH ck0 hs 0 1 (k + 1) fr0_0 rfl q1_38 dX0_fingerprint_15 ?_
      refine lv_iload_n hx hb dX0_fingerprint_18 rfl (lv_at hl 2 rfl) ?_
      obtain ⟨hc, hq⟩ := hq
      refine w_iald hX hK hH (sf0_0 hs) hc dX0_fingerprint_19 ?_
      refine lv_iconst (v := 5) hx hb dX0_fingerprint_20 (by decide) ?_
      refine lv_imul hx hb dX0_fingerprint_21 ?_
      refine lv_iadd hx hb dX0_fingerprint_22 ?_
      refine lv_aload_n hx hb dX0_fingerprint_23 rfl (lv_at hl 0 rfl) ?_
      refine w_getr hX hK hH ck0 hs 1 2 (k + 2) fr0_1 rfl q1_39 dX0_fingerprint_24 ?_
      refine lv_iload_n hx hb dX0_fingerprint_27 rfl (lv_at hl 2 rfl) ?_
      obtain ⟨hc, hq⟩ := hq
      refine w_iald hX hK hH (sf0_1 hs) hc dX0_fingerprint_28 ?_
      refine lv_iadd hx hb dX0_fingerprint_29 ?_
      refine lv_istore_n (lv' := [(1, .int (((v1 * (30 : Int32)) + ((I (k + 1) (v2).toNatClampNeg) * (5 : Int32))) + (I (k + 2) (v2).toNatClampNeg))), (0, .ref (b + k)), (2, .int v2)]) hx hb dX0_fingerprint_30 rfl hl (by decide) rfl (fun ls hl => ?_)
      refine lv_iinc (v := (v2 + (1 : Int32))) (lv' := [(2, .int (v2 + (1 : Int32))), (1, .int (((v1 * (30 : Int32)) + ((I (k + 1) (v2).toNatClampNeg) * (5 : Int32))) + (I (k + 2) (v2).toNatClampNeg))), (0, .ref (b + k))]) hx hb dX0_fingerprint_31 hl (k := 2) rfl rfl (by decide) rfl (fun ls hl => ?_)
      refine lv_goto (tgt := 4) hx hb dX0_fingerprint_34 (by decide) ?_
      exact hK4 (((v1 * (30 : Int32)) + ((I (k + 1) (v2).toNatClampNeg) * (5 : Int32))) + (I (k + 2) (v2).toNatClampNeg)) (v2 + (1 : Int32)) _ _ _ hq hH (lv_sub hl [2, 1, 0] rfl)
set_option maxRecDepth 100000 in
set_option maxHeartbeats 4000000 in
theorem c_X0_fingerprint {l : Launch} {D : va_G} {cs : wC4} {ad : Nat → Nat} {b : Nat} {G : wG} {k : Nat} (hs : wSh k = (0, 0))  (I : wI) (hp : pre_X0_fingerprint k I) : Met l yX0_fingerprint (ws_ yX0_fingerprint cX0_fingerprint 3 (some .int)) rm_X0_fingerprint (va_Pc [.ref (b + k)] (wPr D cs ad b G I)) (va_Qi (fun r I' => I' = I ∧ post_X0_fingerprint k I r) (wPo D cs b G) (fun q => b ≤ q)) 0 0 (fun q => b ≤ q) := by
  have hq := vc_X0_fingerprint k hs I hp
  refine w_met (by decide) (Nat.le_of_ble_eq_true rfl) ?_
  intro p e s m below meth c hX hr hlk hK hE hH ls hl
  have C0 : wCx p m c s _ meth cX0_fingerprint 3 RX0 (some .int) D cs ad b := ⟨hX, hr, hlk, hK, hE⟩
  have hX : CallFix p m c cX0_fingerprint 3 s _ lw_all RX0 := hX
  have hx := hX.1
  have hb := hX.2.1
  have hown := hX.2.2.2.1
  have hts := hX.2.2.2.2
  have hl : lv_has ls 3 [(0, .ref (b + k))] := hl
  unfold v_X0_fingerprint at hq
  refine lv_iconst (v := 0) hx hb dX0_fingerprint_0 (by decide) ?_
  refine lv_istore_n (lv' := [(1, .int (0 : Int32)), (0, .ref (b + k))]) hx hb dX0_fingerprint_1 rfl hl (by decide) rfl (fun ls hl => ?_)
  refine lv_iconst (v := 0) hx hb dX0_fingerprint_2 (by decide) ?_
  refine lv_istore_n (lv' := [(2, .int (0 : Int32)), (1, .int (0 : Int32)), (0, .ref (b + k))]) hx hb dX0_fingerprint_3 rfl hl (by decide) rfl (fun ls hl => ?_)
  obtain ⟨f, hq⟩ := hq
  exact s_X0_fingerprint_4 hs C0  f (0 : Int32) (0 : Int32) _ _ _ hq hH (lv_sub hl [2, 1, 0] rfl)
abbrev rm_X5_meanNotch : Room := { frames := 1, cells := 0, slots := 0, locals := 22 }
theorem hd_X5_meanNotch : yX5_meanNotch.cls = RX5 ∧ yX5_meanNotch.cls ≠ "java/lang/invoke/MethodHandle" ∧ yX5_meanNotch.cls ≠ "java/lang/invoke/VarHandle" ∧ (parseMethodDescriptor yX5_meanNotch.desc).map (fun d => d.parameters.length) = some 0 := by decide +kernel
set_option maxRecDepth 100000 in
set_option maxHeartbeats 4000000 in
theorem c_X5_meanNotch {l : Launch} {D : va_G} {cs : wC4} {ad : Nat → Nat} {b : Nat} {G : wG}  (I : wI) (hp : pre_X5_meanNotch  I) : Met l yX5_meanNotch (ws_ yX5_meanNotch cX5_meanNotch 1 (some .float)) rm_X5_meanNotch (va_Pc [.ref (b + 0)] (wPr D cs ad b G I)) (va_Qf (fun r I' => I' = I ∧ post_X5_meanNotch  I r) (wPo D cs b G) (fun q => b ≤ q)) 0 0 (fun q => b ≤ q) := by
  have hq := vc_X5_meanNotch  I hp
  refine w_met (by decide) (Nat.le_of_ble_eq_true rfl) ?_
  intro p e s m below meth c hX hr hlk hK hE hH ls hl
  have C0 : wCx p m c s _ meth cX5_meanNotch 1 RX5 (some .float) D cs ad b := ⟨hX, hr, hlk, hK, hE⟩
  have hX : CallFix p m c cX5_meanNotch 1 s _ lw_all RX5 := hX
  have hx := hX.1
  have hb := hX.2.1
  have hown := hX.2.2.2.1
  have hts := hX.2.2.2.2
  have hl : lv_has ls 1 [(0, .ref (b + 0))] := hl
  unfold v_X5_meanNotch at hq
  refine lv_aload_n hx hb dX5_meanNotch_0 rfl (lv_at hl 0 rfl) ?_
  refine w_getr hX hK hH ck5 sh0 0 1 1 fr5_0 rfl q1_178 dX5_meanNotch_1 ?_
  refine w_getrN hX hK hE hH ck3 (sf5_0 sh0) 0 1 2 fr3_0 rfl qn1_61 dX5_meanNotch_4 ?_
  obtain ⟨hp, hq⟩ := hq
  refine w_cIp hH (w_rV (As := []) (rest := []) hX hK hE hH (c_X0_notchSum (sf3_0 (sf5_0 sh0))  _ hp) ck0 (sf3_0 (sf5_0 sh0)) q2_13 q2_14 q2_15 q1_3 q2_16 hd_X0_notchSum ⟨Nat.le_of_ble_eq_true rfl, Nat.le_of_ble_eq_true rfl⟩ ⟨rfl, rfl⟩ rfl hl.1 rfl (Nat.le_of_ble_eq_true rfl) dX5_meanNotch_7 ⟨Nat.zero_le _, Nat.zero_le _⟩) (fun r1  H locs hpo hH => ?_)
  have hq := hq r1  hpo
  refine lv_i2f hx hb dX5_meanNotch_10 ?_
  refine w_ldcfw hx hb hown (hts _ q2_129) dX5_meanNotch_11 ?_
  obtain ⟨hc, hq⟩ := hq
  refine lv_fdiv hx hb dX5_meanNotch_14 hc ?_
  exact w_eF hX hr hlk hH ⟨rfl, hq⟩ dX5_meanNotch_15
abbrev rm_X5_floatBits : Room := { frames := 0, cells := 0, slots := 0, locals := 0 }
theorem hd_X5_floatBits : yX5_floatBits.cls = RX5 ∧ yX5_floatBits.cls ≠ "java/lang/invoke/MethodHandle" ∧ yX5_floatBits.cls ≠ "java/lang/invoke/VarHandle" ∧ (parseMethodDescriptor yX5_floatBits.desc).map (fun d => d.parameters.length) = some 1 := by decide +kernel
set_option maxRecDepth 100000 in
set_option maxHeartbeats 4000000 in
theorem s_X5_floatBits_69 {x0 : UInt32} {I : wI} {Q : Int32 → Prop} (C0 : wCx p m c s args meth cX5_floatBits 4 RX5 (some .int) D cs ad b) : ∀ (v1 : UInt32) (v2 : Int32) (H : Heap) (locs : List Loc) (ls : Array Slot), v_X5_floatBits_69 x0 I Q v1 v2 → wH D cs b G I s H locs → lv_has ls 4 [(1, .float v1), (2, .int v2)] → W p l e rm_X5_floatBits s m args below meth c H locs 0 0 (MQ below (va_Qi (fun r I' => I' = I ∧ Q r) (wPo D cs b G) (fun q => b ≤ q)) args s 0 0 (fun q => b ≤ q)) (F0 m 69 ls []) := by
  obtain ⟨hX, hr, hlk, hK, hE⟩ := id C0
  have hx := hX.1
  have hb := hX.2.1
  have hown := hX.2.2.2.1
  have hts := hX.2.2.2.2
  intro v1 v2 H locs ls hq hH hl
  unfold v_X5_floatBits_69 at hq
  refine lv_iload_n hx hb dX5_floatBits_69 rfl (lv_at hl 1 rfl) ?_
  refine lv_bipush (v := 23) hx hb dX5_floatBits_70 (by decide) ?_
  refine lv_ishl hx hb dX5_floatBits_72 ?_
  refine lv_fload_n hx hb dX5_floatBits_73 rfl (lv_at hl 0 rfl) ?_
  refine lv_fconst1 hx hb dX5_floatBits_74 ?_
  obtain ⟨hc, hq⟩ := hq
  refine lv_fsub hx hb dX5_floatBits_75 hc ?_
  refine w_ldcfw hx hb hown (hts _ q3_142) dX5_floatBits_76 ?_
  obtain ⟨hc, hq⟩ := hq
  refine lv_fmul hx hb dX5_floatBits_79 hc ?_
  refine lv_f2i hx hb dX5_floatBits_80 ?_
  refine lv_ior hx hb dX5_floatBits_81 ?_
  exact w_eI hX hr hlk hH ⟨rfl, hq⟩ dX5_floatBits_82
set_option maxRecDepth 100000 in
set_option maxHeartbeats 4000000 in
theorem s_X5_floatBits_43 {x0 : UInt32} {I : wI} {Q : Int32 → Prop} (C0 : wCx p m c s args meth cX5_floatBits 4 RX5 (some .int) D cs ad b) : ∀ (f : Nat) (v1 : UInt32) (v2 : Int32) (v3 : Int32) (H : Heap) (locs : List Loc) (ls : Array Slot), v_X5_floatBits_43 x0 I Q f v1 v2 v3 → wH D cs b G I s H locs → lv_has ls 4 [(1, .float v1), (2, .int v2), (3, .int v3)] → W p l e rm_X5_floatBits s m args below meth c H locs 0 0 (MQ below (va_Qi (fun r I' => I' = I ∧ Q r) (wPo D cs b G) (fun q => b ≤ q)) args s 0 0 (fun q => b ≤ q)) (F0 m 43 ls []) := by
  obtain ⟨hX, hr, hlk, hK, hE⟩ := id C0
  have hx := hX.1
  have hb := hX.2.1
  have hown := hX.2.2.2.1
  have hts := hX.2.2.2.2
  intro f
  induction f with
  | zero =>
    intro v1 v2 v3 H locs ls hq
    exact hq.elim
  | succ f hK43 =>
    intro v1 v2 v3 H locs ls hq hH hl
    have hq : g_X5_floatBits_43 x0 I Q (v_X5_floatBits_43 x0 I Q f) v1 v2 v3 := hq
    unfold g_X5_floatBits_43 at hq
    refine lv_iload_n hx hb dX5_floatBits_43 rfl (lv_at hl 2 rfl) ?_
    refine lv_sipush (v := 2000) hx hb dX5_floatBits_44 (by decide) ?_
    refine lv_icmp_ge (tgt := 69) hx hb dX5_floatBits_47 (by decide) (fun hc => ?_) (fun hc => ?_)
    · have hq := hq.1 hc
      exact s_X5_floatBits_69  C0  v1 v2 _ _ _ hq hH (lv_sub hl [0, 1] rfl)
    · have hq := hq.2 hc
      refine lv_fload_n hx hb dX5_floatBits_50 rfl (lv_at hl 0 rfl) ?_
      refine lv_fconst2 hx hb dX5_floatBits_51 ?_
      refine lv_fcmp hx hb dX5_floatBits_52 ?_
      refine lv_if_lt (tgt := 69) hx hb dX5_floatBits_53 (by decide) (fun hc => ?_) (fun hc => ?_)
      · have hq := hq.1 hc
        exact s_X5_floatBits_69  C0  v1 v2 _ _ _ hq hH (lv_sub hl [0, 1] rfl)
      · have hq := hq.2 hc
        refine lv_fload_n hx hb dX5_floatBits_56 rfl (lv_at hl 0 rfl) ?_
        refine lv_fconst2 hx hb dX5_floatBits_57 ?_
        obtain ⟨hc, hq⟩ := hq
        refine lv_fdiv hx hb dX5_floatBits_58 hc ?_
        refine lv_fstore_n (lv' := [(1, .float (FP.fdiv v1 FP.fconst2)), (2, .int v2), (3, .int v3)]) hx hb dX5_floatBits_59 rfl hl (by decide) rfl (fun ls hl => ?_)
        refine lv_iinc (v := (v2 + (1 : Int32))) (lv' := [(2, .int (v2 + (1 : Int32))), (1, .float (FP.fdiv v1 FP.fconst2)), (3, .int v3)]) hx hb dX5_floatBits_60 hl (k := 1) rfl rfl (by decide) rfl (fun ls hl => ?_)
        refine lv_iinc (v := (v3 + (1 : Int32))) (lv' := [(3, .int (v3 + (1 : Int32))), (2, .int (v2 + (1 : Int32))), (1, .float (FP.fdiv v1 FP.fconst2))]) hx hb dX5_floatBits_63 hl (k := 2) rfl rfl (by decide) rfl (fun ls hl => ?_)
        refine lv_goto (tgt := 43) hx hb dX5_floatBits_66 (by decide) ?_
        exact hK43 (FP.fdiv v1 FP.fconst2) (v2 + (1 : Int32)) (v3 + (1 : Int32)) _ _ _ hq hH (lv_sub hl [2, 1, 0] rfl)
set_option maxRecDepth 100000 in
set_option maxHeartbeats 4000000 in
theorem s_X5_floatBits_41 {x0 : UInt32} {I : wI} {Q : Int32 → Prop} (C0 : wCx p m c s args meth cX5_floatBits 4 RX5 (some .int) D cs ad b) : ∀ (v1 : UInt32) (v2 : Int32) (H : Heap) (locs : List Loc) (ls : Array Slot), v_X5_floatBits_41 x0 I Q v1 v2 → wH D cs b G I s H locs → lv_has ls 4 [(1, .float v1), (2, .int v2)] → W p l e rm_X5_floatBits s m args below meth c H locs 0 0 (MQ below (va_Qi (fun r I' => I' = I ∧ Q r) (wPo D cs b G) (fun q => b ≤ q)) args s 0 0 (fun q => b ≤ q)) (F0 m 41 ls []) := by
  obtain ⟨hX, hr, hlk, hK, hE⟩ := id C0
  have hx := hX.1
  have hb := hX.2.1
  have hown := hX.2.2.2.1
  have hts := hX.2.2.2.2
  intro v1 v2 H locs ls hq hH hl
  unfold v_X5_floatBits_41 at hq
  refine lv_iconst (v := 0) hx hb dX5_floatBits_41 (by decide) ?_
  refine lv_istore_n (lv' := [(3, .int (0 : Int32)), (1, .float v1), (2, .int v2)]) hx hb dX5_floatBits_42 rfl hl (by decide) rfl (fun ls hl => ?_)
  obtain ⟨f, hq⟩ := hq
  exact s_X5_floatBits_43  C0  f v1 v2 (0 : Int32) _ _ _ hq hH (lv_sub hl [1, 2, 0] rfl)
set_option maxRecDepth 100000 in
set_option maxHeartbeats 4000000 in
theorem s_X5_floatBits_15 {x0 : UInt32} {I : wI} {Q : Int32 → Prop} (C0 : wCx p m c s args meth cX5_floatBits 4 RX5 (some .int) D cs ad b) : ∀ (f : Nat) (v1 : UInt32) (v2 : Int32) (v3 : Int32) (H : Heap) (locs : List Loc) (ls : Array Slot), v_X5_floatBits_15 x0 I Q f v1 v2 v3 → wH D cs b G I s H locs → lv_has ls 4 [(1, .float v1), (2, .int v2), (3, .int v3)] → W p l e rm_X5_floatBits s m args below meth c H locs 0 0 (MQ below (va_Qi (fun r I' => I' = I ∧ Q r) (wPo D cs b G) (fun q => b ≤ q)) args s 0 0 (fun q => b ≤ q)) (F0 m 15 ls []) := by
  obtain ⟨hX, hr, hlk, hK, hE⟩ := id C0
  have hx := hX.1
  have hb := hX.2.1
  have hown := hX.2.2.2.1
  have hts := hX.2.2.2.2
  intro f
  induction f with
  | zero =>
    intro v1 v2 v3 H locs ls hq
    exact hq.elim
  | succ f hK15 =>
    intro v1 v2 v3 H locs ls hq hH hl
    have hq : g_X5_floatBits_15 x0 I Q (v_X5_floatBits_15 x0 I Q f) v1 v2 v3 := hq
    unfold g_X5_floatBits_15 at hq
    refine lv_iload_n hx hb dX5_floatBits_15 rfl (lv_at hl 2 rfl) ?_
    refine lv_sipush (v := 2000) hx hb dX5_floatBits_16 (by decide) ?_
    refine lv_icmp_ge (tgt := 41) hx hb dX5_floatBits_19 (by decide) (fun hc => ?_) (fun hc => ?_)
    · have hq := hq.1 hc
      exact s_X5_floatBits_41  C0  v1 v2 _ _ _ hq hH (lv_sub hl [0, 1] rfl)
    · have hq := hq.2 hc
      refine lv_fload_n hx hb dX5_floatBits_22 rfl (lv_at hl 0 rfl) ?_
      refine lv_fconst1 hx hb dX5_floatBits_23 ?_
      refine lv_fcmp hx hb dX5_floatBits_24 ?_
      refine lv_if_ge (tgt := 41) hx hb dX5_floatBits_25 (by decide) (fun hc => ?_) (fun hc => ?_)
      · have hq := hq.1 hc
        exact s_X5_floatBits_41  C0  v1 v2 _ _ _ hq hH (lv_sub hl [0, 1] rfl)
      · have hq := hq.2 hc
        refine lv_fload_n hx hb dX5_floatBits_28 rfl (lv_at hl 0 rfl) ?_
        refine lv_fconst2 hx hb dX5_floatBits_29 ?_
        obtain ⟨hc, hq⟩ := hq
        refine lv_fmul hx hb dX5_floatBits_30 hc ?_
        refine lv_fstore_n (lv' := [(1, .float (FP.fmul v1 FP.fconst2)), (2, .int v2), (3, .int v3)]) hx hb dX5_floatBits_31 rfl hl (by decide) rfl (fun ls hl => ?_)
        refine lv_iinc (v := (v2 + (-1 : Int32))) (lv' := [(2, .int (v2 + (-1 : Int32))), (1, .float (FP.fmul v1 FP.fconst2)), (3, .int v3)]) hx hb dX5_floatBits_32 hl (k := 1) rfl rfl (by decide) rfl (fun ls hl => ?_)
        refine lv_iinc (v := (v3 + (1 : Int32))) (lv' := [(3, .int (v3 + (1 : Int32))), (2, .int (v2 + (-1 : Int32))), (1, .float (FP.fmul v1 FP.fconst2))]) hx hb dX5_floatBits_35 hl (k := 2) rfl rfl (by decide) rfl (fun ls hl => ?_)
        refine lv_goto (tgt := 15) hx hb dX5_floatBits_38 (by decide) ?_
        exact hK15 (FP.fmul v1 FP.fconst2) (v2 + (-1 : Int32)) (v3 + (1 : Int32)) _ _ _ hq hH (lv_sub hl [2, 1, 0] rfl)
set_option maxRecDepth 100000 in
set_option maxHeartbeats 4000000 in
theorem c_X5_floatBits {l : Launch} {D : va_G} {cs : wC4} {ad : Nat → Nat} {b : Nat} {G : wG} (x0 : UInt32) (I : wI) (hp : pre_X5_floatBits x0 I) : Met l yX5_floatBits (ws_ yX5_floatBits cX5_floatBits 4 (some .int)) rm_X5_floatBits (va_Pc [.float x0] (wPr D cs ad b G I)) (va_Qi (fun r I' => I' = I ∧ post_X5_floatBits x0 I r) (wPo D cs b G) (fun q => b ≤ q)) 0 0 (fun q => b ≤ q) := by
  have hq := vc_X5_floatBits x0 I hp
  refine w_met (by decide) (Nat.le_of_ble_eq_true rfl) ?_
  intro p e s m below meth c hX hr hlk hK hE hH ls hl
  have C0 : wCx p m c s _ meth cX5_floatBits 4 RX5 (some .int) D cs ad b := ⟨hX, hr, hlk, hK, hE⟩
  have hX : CallFix p m c cX5_floatBits 4 s _ lw_all RX5 := hX
  have hx := hX.1
  have hb := hX.2.1
  have hown := hX.2.2.2.1
  have hts := hX.2.2.2.2
  have hl : lv_has ls 4 [(0, .float x0)] := hl
  unfold v_X5_floatBits at hq
  refine lv_fload_n hx hb dX5_floatBits_0 rfl (lv_at hl 0 rfl) ?_
  refine lv_fconst0 hx hb dX5_floatBits_1 ?_
  refine lv_fcmp hx hb dX5_floatBits_2 ?_
  refine lv_if_gt (tgt := 8) hx hb dX5_floatBits_3 (by decide) (fun hc => ?_) (fun hc => ?_)
  · have hq := hq.1 hc
    refine lv_fload_n hx hb dX5_floatBits_8 rfl (lv_at hl 0 rfl) ?_
    refine lv_fstore_n (lv' := [(1, .float x0), (0, .float x0)]) hx hb dX5_floatBits_9 rfl hl (by decide) rfl (fun ls hl => ?_)
    refine lv_bipush (v := 127) hx hb dX5_floatBits_10 (by decide) ?_
    refine lv_istore_n (lv' := [(2, .int (127 : Int32)), (1, .float x0), (0, .float x0)]) hx hb dX5_floatBits_12 rfl hl (by decide) rfl (fun ls hl => ?_)
    refine lv_iconst (v := 0) hx hb dX5_floatBits_13 (by decide) ?_
    refine lv_istore_n (lv' := [(3, .int (0 : Int32)), (2, .int (127 : Int32)), (1, .float x0), (0, .float x0)]) hx hb dX5_floatBits_14 rfl hl (by decide) rfl (fun ls hl => ?_)
    obtain ⟨f, hq⟩ := hq
    exact s_X5_floatBits_15  C0  f x0 (127 : Int32) (0 : Int32) _ _ _ hq hH (lv_sub hl [2, 1, 0] rfl)
  · have hq := hq.2 hc
    refine lv_iconst (v := 0) hx hb dX5_floatBits_6 (by decide) ?_
    exact w_eI hX hr hlk hH ⟨rfl, hq⟩ dX5_floatBits_7
abbrev rm_J_isNaN : Room := { frames := 0, cells := 0, slots := 0, locals := 0 }
theorem hd_J_isNaN : yJxe99ae_isNaN_b9ae7.cls = RJxe99ae ∧ yJxe99ae_isNaN_b9ae7.cls ≠ "java/lang/invoke/MethodHandle" ∧ yJxe99ae_isNaN_b9ae7.cls ≠ "java/lang/invoke/VarHandle" ∧ (parseMethodDescriptor yJxe99ae_isNaN_b9ae7.desc).map (fun d => d.parameters.length) = some 1 := by decide +kernel
set_option maxRecDepth 100000 in
set_option maxHeartbeats 4000000 in
theorem s_J_isNaN_11 {x0 : UInt64} {I : wI} {Q : Int32 → Prop} (C0 : wCx p m c s args meth cJxe99ae_isNaN_b9ae7 2 RJxe99ae (some .boolean) D cs ad b) : ∀ (t0 : Int32) (H : Heap) (locs : List Loc) (ls : Array Slot), v_J_isNaN_11 x0 I Q t0 → wH D cs b G I s H locs → lv_has ls 2 [] → W p l e rm_J_isNaN s m args below meth c H locs 0 0 (MQ below (va_Qi (fun r I' => I' = I ∧ Q r) (wPo D cs b G) (fun q => b ≤ q)) args s 0 0 (fun q => b ≤ q)) (F0 m 11 ls [.int t0]) := by
  obtain ⟨hX, hr, hlk, hK, hE⟩ := id C0
  have hx := hX.1
  have hb := hX.2.1
  have hown := hX.2.2.2.1
  have hts := hX.2.2.2.2
  intro t0 H locs ls hq hH hl
  unfold v_J_isNaN_11 at hq
  obtain ⟨hz, hq⟩ := hq
  exact w_eZ hz hX hr hlk hH ⟨rfl, hq⟩ dJxe99ae_isNaN_b9ae7_11
set_option maxRecDepth 100000 in
set_option maxHeartbeats 4000000 in
theorem c_J_isNaN {l : Launch} {D : va_G} {cs : wC4} {ad : Nat → Nat} {b : Nat} {G : wG} (x0 : UInt64) (I : wI) (hp : pre_J_isNaN x0 I) : Met l yJxe99ae_isNaN_b9ae7 (ws_ yJxe99ae_isNaN_b9ae7 cJxe99ae_isNaN_b9ae7 2 (some .boolean)) rm_J_isNaN (va_Pc [.double x0] (wPr D cs ad b G I)) (va_Qi (fun r I' => I' = I ∧ post_J_isNaN x0 I r) (wPo D cs b G) (fun q => b ≤ q)) 0 0 (fun q => b ≤ q) := by
  have hq := vc_J_isNaN x0 I hp
  refine w_metF (by decide +kernel) (Nat.le_of_ble_eq_true rfl) ?_
  intro p e s m below meth c hX hr hlk hK hE hH ls hl
  have C0 : wCx p m c s _ meth cJxe99ae_isNaN_b9ae7 2 RJxe99ae (some .boolean) D cs ad b := ⟨hX, hr, hlk, hK, hE⟩
  have hX : CallFix p m c cJxe99ae_isNaN_b9ae7 2 s _ lw_all RJxe99ae := hX
  have hx := hX.1
  have hb := hX.2.1
  have hown := hX.2.2.2.1
  have hts := hX.2.2.2.2
  have hl : lv_has ls 2 [(0, .double x0)] := hl
  unfold v_J_isNaN at hq
  refine lv_dload_n hx hb dJxe99ae_isNaN_b9ae7_0 rfl (lv_at hl 0 rfl) ?_
  refine lv_dload_n hx hb dJxe99ae_isNaN_b9ae7_1 rfl (lv_at hl 0 rfl) ?_
  refine lv_dcmp hx hb dJxe99ae_isNaN_b9ae7_2 ?_
  refine lv_if_eq (tgt := 10) hx hb dJxe99ae_isNaN_b9ae7_3 (by decide) (fun hc => ?_) (fun hc => ?_)
  · have hq := hq.1 hc
    refine lv_iconst (v := 0) hx hb dJxe99ae_isNaN_b9ae7_10 (by decide) ?_
    exact s_J_isNaN_11  C0  (0 : Int32) _ _ _ hq hH (lv_sub hl [] rfl)
  · have hq := hq.2 hc
    refine lv_iconst (v := 1) hx hb dJxe99ae_isNaN_b9ae7_6 (by decide) ?_
    refine lv_goto (tgt := 11) hx hb dJxe99ae_isNaN_b9ae7_7 (by decide) ?_
    exact s_J_isNaN_11  C0  (1 : Int32) _ _ _ hq hH (lv_sub hl [] rfl)
abbrev rm_J_doubleToLongBits : Room := { frames := 1, cells := 0, slots := 0, locals := 40 }
theorem hd_J_doubleToLongBits : yJxe99ae_doubleToLongBits_ccdee.cls = RJxe99ae ∧ yJxe99ae_doubleToLongBits_ccdee.cls ≠ "java/lang/invoke/MethodHandle" ∧ yJxe99ae_doubleToLongBits_ccdee.cls ≠ "java/lang/invoke/VarHandle" ∧ (parseMethodDescriptor yJxe99ae_doubleToLongBits_ccdee.desc).map (fun d => d.parameters.length) = some 1 := by decide +kernel
set_option maxRecDepth 100000 in
set_option maxHeartbeats 4000000 in
theorem c_J_doubleToLongBits {l : Launch} {D : va_G} {cs : wC4} {ad : Nat → Nat} {b : Nat} {G : wG} (x0 : UInt64) (I : wI) (hp : pre_J_doubleToLongBits x0 I) : Met l yJxe99ae_doubleToLongBits_ccdee (ws_ yJxe99ae_doubleToLongBits_ccdee cJxe99ae_doubleToLongBits_ccdee 2 (some .long)) rm_J_doubleToLongBits (va_Pc [.double x0] (wPr D cs ad b G I)) (va_Ql (fun r I' => I' = I ∧ post_J_doubleToLongBits x0 I r) (wPo D cs b G) (fun q => b ≤ q)) 0 0 (fun q => b ≤ q) := by
  have hq := vc_J_doubleToLongBits x0 I hp
  refine w_metF (by decide +kernel) (Nat.le_of_ble_eq_true rfl) ?_
  intro p e s m below meth c hX hr hlk hK hE hH ls hl
  have C0 : wCx p m c s _ meth cJxe99ae_doubleToLongBits_ccdee 2 RJxe99ae (some .long) D cs ad b := ⟨hX, hr, hlk, hK, hE⟩
  have hX : CallFix p m c cJxe99ae_doubleToLongBits_ccdee 2 s _ lw_all RJxe99ae := hX
  have hx := hX.1
  have hb := hX.2.1
  have hown := hX.2.2.2.1
  have hts := hX.2.2.2.2
  have hl : lv_has ls 2 [(0, .double x0)] := hl
  unfold v_J_doubleToLongBits at hq
  refine lv_dload_n hx hb dJxe99ae_doubleToLongBits_ccdee_0 rfl (lv_at hl 0 rfl) ?_
  obtain ⟨hp, hq⟩ := hq
  refine w_cIp hH (w_rS (As := [.double x0]) (rest := []) hX hK hE hH (c_J_isNaN  _ _ hp) q5_170 q5_171 q1_16 q5_172 hd_J_isNaN.2 ⟨Nat.le_of_ble_eq_true rfl, Nat.le_of_ble_eq_true rfl⟩ ⟨rfl, rfl⟩ rfl hl.1 rfl (Nat.le_of_ble_eq_true rfl) dJxe99ae_doubleToLongBits_ccdee_1 ⟨Nat.zero_le _, Nat.zero_le _⟩) (fun r1  H locs hpo hH => ?_)
  have hq := hq r1  hpo
  refine lv_if_ne (tgt := 12) hx hb dJxe99ae_doubleToLongBits_ccdee_4 (by decide) (fun hc => ?_) (fun hc => ?_)
  · have hq := hq.1 hc
    refine lv_ldc2 hx hb hown (hts _ q5_176) dJxe99ae_doubleToLongBits_ccdee_12 ?_
    exact w_eL hX hr hlk hH ⟨rfl, hq⟩ dJxe99ae_doubleToLongBits_ccdee_15
  · have hq := hq.2 hc
    refine lv_dload_n hx hb dJxe99ae_doubleToLongBits_ccdee_7 rfl (lv_at hl 0 rfl) ?_
    refine vn_d2l hx hb (hX.2.2.1.trans hl.1.symm) hown (hts _ q5_173) (hts _ q5_175) (hts _ q5_174) (hts _ q1_16) (Nat.le_of_ble_eq_true rfl) (Nat.le_of_ble_eq_true rfl) dJxe99ae_doubleToLongBits_ccdee_8 ?_
    exact w_eL hX hr hlk hH ⟨rfl, hq⟩ dJxe99ae_doubleToLongBits_ccdee_11
abbrev rm_J_isNaNf : Room := { frames := 0, cells := 0, slots := 0, locals := 0 }
theorem hd_J_isNaNf : yJxf58ca_isNaN_12338.cls = RJxf58ca ∧ yJxf58ca_isNaN_12338.cls ≠ "java/lang/invoke/MethodHandle" ∧ yJxf58ca_isNaN_12338.cls ≠ "java/lang/invoke/VarHandle" ∧ (parseMethodDescriptor yJxf58ca_isNaN_12338.desc).map (fun d => d.parameters.length) = some 1 := by decide +kernel
set_option maxRecDepth 100000 in
set_option maxHeartbeats 4000000 in
theorem s_J_isNaNf_11 {x0 : UInt32} {I : wI} {Q : Int32 → Prop} (C0 : wCx p m c s args meth cJxf58ca_isNaN_12338 1 RJxf58ca (some .boolean) D cs ad b) : ∀ (t0 : Int32) (H : Heap) (locs : List Loc) (ls : Array Slot), v_J_isNaNf_11 x0 I Q t0 → wH D cs b G I s H locs → lv_has ls 1 [] → W p l e rm_J_isNaNf s m args below meth c H locs 0 0 (MQ below (va_Qi (fun r I' => I' = I ∧ Q r) (wPo D cs b G) (fun q => b ≤ q)) args s 0 0 (fun q => b ≤ q)) (F0 m 11 ls [.int t0]) := by
  obtain ⟨hX, hr, hlk, hK, hE⟩ := id C0
  have hx := hX.1
  have hb := hX.2.1
  have hown := hX.2.2.2.1
  have hts := hX.2.2.2.2
  intro t0 H locs ls hq hH hl
  unfold v_J_isNaNf_11 at hq
  obtain ⟨hz, hq⟩ := hq
  exact w_eZ hz hX hr hlk hH ⟨rfl, hq⟩ dJxf58ca_isNaN_12338_11
set_option maxRecDepth 100000 in
set_option maxHeartbeats 4000000 in
theorem c_J_isNaNf {l : Launch} {D : va_G} {cs : wC4} {ad : Nat → Nat} {b : Nat} {G : wG} (x0 : UInt32) (I : wI) (hp : pre_J_isNaNf x0 I) : Met l yJxf58ca_isNaN_12338 (ws_ yJxf58ca_isNaN_12338 cJxf58ca_isNaN_12338 1 (some .boolean)) rm_J_isNaNf (va_Pc [.float x0] (wPr D cs ad b G I)) (va_Qi (fun r I' => I' = I ∧ post_J_isNaNf x0 I r) (wPo D cs b G) (fun q => b ≤ q)) 0 0 (fun q => b ≤ q) := by
  have hq := vc_J_isNaNf x0 I hp
  refine w_metF (by decide +kernel) (Nat.le_of_ble_eq_true rfl) ?_
  intro p e s m below meth c hX hr hlk hK hE hH ls hl
  have C0 : wCx p m c s _ meth cJxf58ca_isNaN_12338 1 RJxf58ca (some .boolean) D cs ad b := ⟨hX, hr, hlk, hK, hE⟩
  have hX : CallFix p m c cJxf58ca_isNaN_12338 1 s _ lw_all RJxf58ca := hX
  have hx := hX.1
  have hb := hX.2.1
  have hown := hX.2.2.2.1
  have hts := hX.2.2.2.2
  have hl : lv_has ls 1 [(0, .float x0)] := hl
  unfold v_J_isNaNf at hq
  refine lv_fload_n hx hb dJxf58ca_isNaN_12338_0 rfl (lv_at hl 0 rfl) ?_
  refine lv_fload_n hx hb dJxf58ca_isNaN_12338_1 rfl (lv_at hl 0 rfl) ?_
  refine lv_fcmp hx hb dJxf58ca_isNaN_12338_2 ?_
  refine lv_if_eq (tgt := 10) hx hb dJxf58ca_isNaN_12338_3 (by decide) (fun hc => ?_) (fun hc => ?_)
  · have hq := hq.1 hc
    refine lv_iconst (v := 0) hx hb dJxf58ca_isNaN_12338_10 (by decide) ?_
    exact s_J_isNaNf_11  C0  (0 : Int32) _ _ _ hq hH (lv_sub hl [] rfl)
  · have hq := hq.2 hc
    refine lv_iconst (v := 1) hx hb dJxf58ca_isNaN_12338_6 (by decide) ?_
    refine lv_goto (tgt := 11) hx hb dJxf58ca_isNaN_12338_7 (by decide) ?_
    exact s_J_isNaNf_11  C0  (1 : Int32) _ _ _ hq hH (lv_sub hl [] rfl)
abbrev rm_J_floatToIntBits : Room := { frames := 1, cells := 0, slots := 0, locals := 40 }
theorem hd_J_floatToIntBits : yJxf58ca_floatToIntBits_5c35a.cls = RJxf58ca ∧ yJxf58ca_floatToIntBits_5c35a.cls ≠ "java/lang/invoke/MethodHandle" ∧ yJxf58ca_floatToIntBits_5c35a.cls ≠ "java/lang/invoke/VarHandle" ∧ (parseMethodDescriptor yJxf58ca_floatToIntBits_5c35a.desc).map (fun d => d.parameters.length) = some 1 := by decide +kernel
set_option maxRecDepth 100000 in
set_option maxHeartbeats 4000000 in
theorem c_J_floatToIntBits {l : Launch} {D : va_G} {cs : wC4} {ad : Nat → Nat} {b : Nat} {G : wG} (x0 : UInt32) (I : wI) (hp : pre_J_floatToIntBits x0 I) : Met l yJxf58ca_floatToIntBits_5c35a (ws_ yJxf58ca_floatToIntBits_5c35a cJxf58ca_floatToIntBits_5c35a 1 (some .int)) rm_J_floatToIntBits (va_Pc [.float x0] (wPr D cs ad b G I)) (va_Qi (fun r I' => I' = I ∧ post_J_floatToIntBits x0 I r) (wPo D cs b G) (fun q => b ≤ q)) 0 0 (fun q => b ≤ q) := by
  have hq := vc_J_floatToIntBits x0 I hp
  refine w_metF (by decide +kernel) (Nat.le_of_ble_eq_true rfl) ?_
  intro p e s m below meth c hX hr hlk hK hE hH ls hl
  have C0 : wCx p m c s _ meth cJxf58ca_floatToIntBits_5c35a 1 RJxf58ca (some .int) D cs ad b := ⟨hX, hr, hlk, hK, hE⟩
  have hX : CallFix p m c cJxf58ca_floatToIntBits_5c35a 1 s _ lw_all RJxf58ca := hX
  have hx := hX.1
  have hb := hX.2.1
  have hown := hX.2.2.2.1
  have hts := hX.2.2.2.2
  have hl : lv_has ls 1 [(0, .float x0)] := hl
  unfold v_J_floatToIntBits at hq
  refine lv_fload_n hx hb dJxf58ca_floatToIntBits_5c35a_0 rfl (lv_at hl 0 rfl) ?_
  obtain ⟨hp, hq⟩ := hq
  refine w_cIp hH (w_rS (As := [.float x0]) (rest := []) hX hK hE hH (c_J_isNaNf  _ _ hp) q5_180 q5_181 q1_17 q5_182 hd_J_isNaNf.2 ⟨Nat.le_of_ble_eq_true rfl, Nat.le_of_ble_eq_true rfl⟩ ⟨rfl, rfl⟩ rfl hl.1 rfl (Nat.le_of_ble_eq_true rfl) dJxf58ca_floatToIntBits_5c35a_1 ⟨Nat.zero_le _, Nat.zero_le _⟩) (fun r1  H locs hpo hH => ?_)
  have hq := hq r1  hpo
  refine lv_if_ne (tgt := 12) hx hb dJxf58ca_floatToIntBits_5c35a_4 (by decide) (fun hc => ?_) (fun hc => ?_)
  · have hq := hq.1 hc
    refine lv_ldc hx hb hown (hts _ q5_186) dJxf58ca_floatToIntBits_5c35a_12 ?_
    exact w_eI hX hr hlk hH ⟨rfl, hq⟩ dJxf58ca_floatToIntBits_5c35a_14
  · have hq := hq.2 hc
    refine lv_fload_n hx hb dJxf58ca_floatToIntBits_5c35a_7 rfl (lv_at hl 0 rfl) ?_
    refine vn_f2i hx hb (hX.2.2.1.trans hl.1.symm) hown (hts _ q5_183) (hts _ q5_185) (hts _ q5_184) (hts _ q1_17) (Nat.le_of_ble_eq_true rfl) (Nat.le_of_ble_eq_true rfl) dJxf58ca_floatToIntBits_5c35a_8 ?_
    exact w_eI hX hr hlk hH ⟨rfl, hq⟩ dJxf58ca_floatToIntBits_5c35a_11
end
