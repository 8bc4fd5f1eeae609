section
variable {p : Program} {l : Launch} {e : Env} {s : State} {m : MethodId} {args : Array Value} {below : List Frame} {meth : Method} {c : Code} {D : va_G} {cs : wC4} {ad : Nat → Nat} {b : Nat} {G : wG}
abbrev rm_X5_requirePosition : Room := { frames := 8, cells := 0, slots := 0, locals := 120 }
theorem hd_X5_requirePosition : yX5_requirePosition.cls = RX5 ∧ yX5_requirePosition.cls ≠ "java/lang/invoke/MethodHandle" ∧ yX5_requirePosition.cls ≠ "java/lang/invoke/VarHandle" ∧ (parseMethodDescriptor yX5_requirePosition.desc).map (fun d => d.parameters.length) = some 1 := by decide +kernel
set_option maxRecDepth 100000 in
set_option maxHeartbeats 4000000 in
theorem s_X5_requirePosition_10 {x0 : Int32} {I : wI} {Q : Prop} (C0 : wCx p m c s args meth cX5_requirePosition 1 RX5 none D cs ad b) : ∀  (H : Heap) (locs : List Loc) (ls : Array Slot), v_X5_requirePosition_10 x0 I Q  → wH D cs b G I s H locs → lv_has ls 1 [] → W p l e rm_X5_requirePosition s m args below meth c H locs 0 0 (MQ below (va_Qv (fun I' => I' = I ∧ Q) (wPo D cs b G) (fun q => b ≤ q)) args s 0 0 (fun q => b ≤ q)) (F0 m 10 ls []) := by
  obtain ⟨hX, hr, hlk, hK, hE⟩ := id C0
  have hx := hX.1
  have hb := hX.2.1
  have hown := hX.2.2.2.1
  have hts := hX.2.2.2.2
  intro  H locs ls hq hH hl
  unfold v_X5_requirePosition_10 at hq
  exact hq.elim
set_option maxRecDepth 100000 in
set_option maxHeartbeats 4000000 in
theorem c_X5_requirePosition {l : Launch} {D : va_G} {cs : wC4} {ad : Nat → Nat} {b : Nat} {G : wG} (x0 : Int32) (I : wI) (hp : pre_X5_requirePosition x0 I) : Met l yX5_requirePosition (ws_ yX5_requirePosition cX5_requirePosition 1 none) rm_X5_requirePosition (va_Pc [.int x0] (wPr D cs ad b G I)) (va_Qv (fun I' => I' = I ∧ post_X5_requirePosition x0 I) (wPo D cs b G) (fun q => b ≤ q)) 0 0 (fun q => b ≤ q) := by
  have hq := vc_X5_requirePosition x0 I hp
  refine w_met (by decide) (Nat.le_of_ble_eq_true rfl) ?_
  intro p e s m below meth c hX hr hlk hK hE hH ls hl
  have C0 : wCx p m c s _ meth cX5_requirePosition 1 RX5 none D cs ad b := ⟨hX, hr, hlk, hK, hE⟩
  have hX : CallFix p m c cX5_requirePosition 1 s _ lw_all RX5 := hX
  have hx := hX.1
  have hb := hX.2.1
  have hown := hX.2.2.2.1
  have hts := hX.2.2.2.2
  have hl : lv_has ls 1 [(0, .int x0)] := hl
  unfold v_X5_requirePosition at hq
  refine lv_iload_n hx hb dX5_requirePosition_0 rfl (lv_at hl 0 rfl) ?_
  refine lv_if_lt (tgt := 10) hx hb dX5_requirePosition_1 (by decide) (fun hc => ?_) (fun hc => ?_)
  · have hq := hq.1 hc
    exact s_X5_requirePosition_10  C0   _ _ _ hq hH (lv_sub hl [] rfl)
  · have hq := hq.2 hc
    refine lv_iload_n hx hb dX5_requirePosition_4 rfl (lv_at hl 0 rfl) ?_
    refine lv_bipush (v := 6) hx hb dX5_requirePosition_5 (by decide) ?_
    refine lv_icmp_lt (tgt := 21) hx hb dX5_requirePosition_7 (by decide) (fun hc => ?_) (fun hc => ?_)
    · have hq := hq.1 hc
      exact w_eV hX hr hlk hH ⟨rfl, hq⟩ dX5_requirePosition_21
    · have hq := hq.2 hc
      exact s_X5_requirePosition_10  C0   _ _ _ hq hH (lv_sub hl [] rfl)
abbrev rm_X5_requirePositionx : Room := { frames := 8, cells := 1, slots := 6, locals := 120 }

set_option maxRecDepth 100000 in
set_option maxHeartbeats 4000000 in
theorem s_X5_requirePositionx_10 {x0 : Int32} {I : wI} {X : String → Prop} (hst : l.stackTraces = false) (hEx : ∀ x ∈ c.exceptionTable.toList, False) (C0 : wCx p m c s args meth cX5_requirePosition 1 RX5 none D cs ad b) : ∀  (H : Heap) (locs : List Loc) (ls : Array Slot), v_X5_requirePositionx_10 x0 I X  → wH D cs b G I s H locs → lv_has ls 1 [] → W p l e rm_X5_requirePositionx s m args below meth c H locs 0 0 (vx_MQ below (va_Qv (fun (_ : wI) => False) (wPo D cs b G) (fun q => b ≤ q)) (wXC D cs b G (fun E I' => I' = I ∧ X E)) args s 1 6 (fun q => b ≤ q)) (F0 m 10 ls []) := by
  obtain ⟨hX, hr, hlk, hK, hE⟩ := id C0
  have hx := hX.1
  have hb := hX.2.1
  have hown := hX.2.2.2.1
  have hts := hX.2.2.2.2
  intro  H locs ls hq hH hl
  unfold v_X5_requirePositionx_10 at hq
  exact w_throwW th_X5_302_307_306 hX hst hlk hEx hE hH hl.1 dX5_requirePosition_10 dX5_requirePosition_13 dX5_requirePosition_14 dX5_requirePosition_17 dX5_requirePosition_20 ⟨Nat.le_of_ble_eq_true rfl, Nat.le_of_ble_eq_true rfl, Nat.le_of_ble_eq_true rfl, Nat.le_of_ble_eq_true rfl⟩ ⟨rfl, hq⟩
set_option maxRecDepth 100000 in
set_option maxHeartbeats 4000000 in
theorem c_X5_requirePositionx {l : Launch} {D : va_G} {cs : wC4} {ad : Nat → Nat} {b : Nat} {G : wG} (hst : l.stackTraces = false) (x0 : Int32) (I : wI) (hp : pre_X5_requirePositionx x0 I) : vx_Met l yX5_requirePosition (ws_ yX5_requirePosition cX5_requirePosition 1 none) rm_X5_requirePositionx (va_Pc [.int x0] (wPr D cs ad b G I)) (va_Qv (fun (_ : wI) => False) (wPo D cs b G) (fun q => b ≤ q)) (wXC D cs b G (fun E I' => I' = I ∧ exc_X5_requirePosition x0 I E)) 1 6 (fun q => b ≤ q) := by
  have hq := vc_X5_requirePositionx x0 I hp
  refine w_metx (by decide) (Nat.le_of_ble_eq_true rfl) ?_
  intro p e s m below meth c hX hr hlk hEx hK hE hH ls hl
  have C0 : wCx p m c s _ meth cX5_requirePosition 1 RX5 none D cs ad b := ⟨hX, hr, hlk, hK, hE⟩
  have hX : CallFix p m c cX5_requirePosition 1 s _ lw_all RX5 := hX
  have hx := hX.1
  have hb := hX.2.1
  have hown := hX.2.2.2.1
  have hts := hX.2.2.2.2
  have hl : lv_has ls 1 [(0, .int x0)] := hl
  unfold v_X5_requirePositionx at hq
  refine lv_iload_n hx hb dX5_requirePosition_0 rfl (lv_at hl 0 rfl) ?_
  refine lv_if_lt (tgt := 10) hx hb dX5_requirePosition_1 (by decide) (fun hc => ?_) (fun hc => ?_)
  · have hq := hq.1 hc
    exact s_X5_requirePositionx_10 hst hEx C0   _ _ _ hq hH (lv_sub hl [] rfl)
  · have hq := hq.2 hc
    refine lv_iload_n hx hb dX5_requirePosition_4 rfl (lv_at hl 0 rfl) ?_
    refine lv_bipush (v := 6) hx hb dX5_requirePosition_5 (by decide) ?_
    refine lv_icmp_lt (tgt := 21) hx hb dX5_requirePosition_7 (by decide) (fun hc => ?_) (fun hc => ?_)
    · have hq := hq.1 hc
      exact hq.elim
    · have hq := hq.2 hc
      exact s_X5_requirePositionx_10 hst hEx C0   _ _ _ hq hH (lv_sub hl [] rfl)
abbrev rm_X3_stuckKeys : Room := { frames := 2, cells := 0, slots := 0, locals := 42 }
theorem hd_X3_stuckKeys : yX3_stuckKeys.cls = RX3 ∧ yX3_stuckKeys.cls ≠ "java/lang/invoke/MethodHandle" ∧ yX3_stuckKeys.cls ≠ "java/lang/invoke/VarHandle" ∧ (parseMethodDescriptor yX3_stuckKeys.desc).map (fun d => d.parameters.length) = some 0 := by decide +kernel
set_option maxRecDepth 100000 in
set_option maxHeartbeats 4000000 in
theorem s_X3_stuckKeys_20 {k : Nat} {I : wI} {Q : Int32 → Prop} {K4 : Int32 → Int32 → Prop} (hs : wSh k = (0, 3)) (C0 : wCx p m c s args meth cX3_stuckKeys 3 RX3 (some .int) D cs ad b) (hK4 : ∀ (v1 : Int32) (v2 : Int32) (H : Heap) (locs : List Loc) (ls : Array Slot), K4 v1 v2 → wH D cs b G I s H locs → lv_has ls 3 [(0, .ref (G.1 k)), (1, .int v1), (2, .int v2)] → W p l e rm_X3_stuckKeys s m args below meth c H locs 0 0 (MQ below (va_Qi (fun r I' => I' = I ∧ Q r) (wPo D cs b G) (fun q => b ≤ q)) args s 0 0 (fun q => b ≤ q)) (F0 m 4 ls [])) : ∀ (v1 : Int32) (v2 : Int32) (H : Heap) (locs : List Loc) (ls : Array Slot), v_X3_stuckKeys_20 k I Q K4 v1 v2 → wH D cs b G I s H locs → lv_has ls 3 [(0, .ref (G.1 k)), (1, .int v1), (2, .int v2)] → W p l e rm_X3_stuckKeys s m args below meth c H locs 0 0 (MQ below (va_Qi (fun r I' => I' = I ∧ Q r) (wPo D cs b G) (fun q => b ≤ q)) args s 0 0 (fun q => b ≤ q)) (F0 m 20 ls []) := by
  obtain ⟨hX, hr, hlk, hK, hE⟩ := id C0
  have hx := hX.1
  have hb := hX.2.1
  have hown := hX.2.2.2.1
  have hts := hX.2.2.2.2
  intro v1 v2 H locs ls hq hH hl
  unfold v_X3_stuckKeys_20 at hq
  refine lv_iinc (v := (v2 + (1 : Int32))) (lv' := [(2, .int (v2 + (1 : Int32))), (0, .ref (G.1 k)), (1, .int v1)]) hx hb dX3_stuckKeys_20 hl (k := 2) rfl rfl (by decide) rfl (fun ls hl => ?_)
  refine lv_goto (tgt := 4) hx hb dX3_stuckKeys_23 (by decide) ?_
  exact hK4 v1 (v2 + (1 : Int32)) _ _ _ hq hH (lv_sub hl [1, 2, 0] rfl)
set_option maxRecDepth 100000 in
set_option maxHeartbeats 4000000 in
theorem s_X3_stuckKeys_4 {k : Nat} {I : wI} {Q : Int32 → Prop} (hs : wSh k = (0, 3)) (C0 : wCx p m c s args meth cX3_stuckKeys 3 RX3 (some .int) D cs ad b) : ∀ (f : Nat) (v1 : Int32) (v2 : Int32) (H : Heap) (locs : List Loc) (ls : Array Slot), v_X3_stuckKeys_4 k I Q f v1 v2 → wH D cs b G I s H locs → lv_has ls 3 [(0, .ref (G.1 k)), (1, .int v1), (2, .int v2)] → W p l e rm_X3_stuckKeys s m args below meth c H locs 0 0 (MQ below (va_Qi (fun r I' => I' = I ∧ Q r) (wPo D cs b G) (fun q => b ≤ q)) args s 0 0 (fun q => b ≤ q)) (F0 m 4 ls []) := by
  obtain ⟨hX, hr, hlk, hK, hE⟩ := id C0
  have hx := hX.1
  have hb := hX.2.1
  have hown := hX.2.2.2.1
  have hts := hX.2.2.2.2
  intro f
  induction f with
  | zero =>
    intro v1 v2 H locs ls hq
    exact hq.elim
  | succ f hK4 =>
    intro v1 v2 H locs ls hq hH hl
    have hq : g_X3_stuckKeys_4 k I Q (v_X3_stuckKeys_4 k I Q f) v1 v2 := hq
    unfold g_X3_stuckKeys_4 at hq
    refine lv_iload_n hx hb dX3_stuckKeys_4 rfl (lv_at hl 2 rfl) ?_
    refine lv_iconst (v := 5) hx hb dX3_stuckKeys_5 (by decide) ?_
    refine lv_icmp_ge (tgt := 26) hx hb dX3_stuckKeys_6 (by decide) (fun hc => ?_) (fun hc => ?_)
    · have hq := hq.1 hc
      refine lv_iload_n hx hb dX3_stuckKeys_26 rfl (lv_at hl 1 rfl) ?_
      exact w_eI hX hr hlk hH ⟨rfl, hq⟩ dX3_stuckKeys_27
    · have hq := hq.2 hc
      refine lv_aload_n hx hb dX3_stuckKeys_9 rfl (lv_at hl 0 rfl) ?_
      refine lv_iload_n hx hb dX3_stuckKeys_10 rfl (lv_at hl 2 rfl) ?_
      obtain ⟨hp, hq⟩ := hq
      refine w_cIp hH (w_rV (As := [.int v2]) (rest := []) hX hK hE hH (c_X3_allows hs _ _ hp) ck3 hs q3_21 q2_206 q2_207 q1_2 q2_208 hd_X3_allows ⟨Nat.le_of_ble_eq_true rfl, Nat.le_of_ble_eq_true rfl⟩ ⟨rfl, rfl⟩ rfl hl.1 rfl (Nat.le_of_ble_eq_true rfl) dX3_stuckKeys_11 ⟨Nat.zero_le _, Nat.zero_le _⟩) (fun r1  H locs hpo hH => ?_)
      have hq := hq r1  hpo
      refine lv_if_ne (tgt := 20) hx hb dX3_stuckKeys_14 (by decide) (fun hc => ?_) (fun hc => ?_)
      · have hq := hq.1 hc
        exact s_X3_stuckKeys_20 hs C0 hK4 v1 v2 _ _ _ hq hH (lv_sub hl [0, 1, 2] rfl)
      · have hq := hq.2 hc
        refine lv_iinc (v := (v1 + (1 : Int32))) (lv' := [(1, .int (v1 + (1 : Int32))), (0, .ref (G.1 k)), (2, .int v2)]) hx hb dX3_stuckKeys_17 hl (k := 1) rfl rfl (by decide) rfl (fun ls hl => ?_)
        exact s_X3_stuckKeys_20 hs C0 hK4 (v1 + (1 : Int32)) v2 _ _ _ hq hH (lv_sub hl [1, 0, 2] rfl)
set_option maxRecDepth 100000 in
set_option maxHeartbeats 4000000 in
theorem c_X3_stuckKeys {l : Launch} {D : va_G} {cs : wC4} {ad : Nat → Nat} {b : Nat} {G : wG} {k : Nat} (hs : wSh k = (0, 3))  (I : wI) (hp : pre_X3_stuckKeys k I) : Met l yX3_stuckKeys (ws_ yX3_stuckKeys cX3_stuckKeys 3 (some .int)) rm_X3_stuckKeys (va_Pc [.ref (G.1 k)] (wPr D cs ad b G I)) (va_Qi (fun r I' => I' = I ∧ post_X3_stuckKeys k I r) (wPo D cs b G) (fun q => b ≤ q)) 0 0 (fun q => b ≤ q) := by
  have hq := vc_X3_stuckKeys k I hp
  refine w_met (by decide) (Nat.le_of_ble_eq_true rfl) ?_
  intro p e s m below meth c hX hr hlk hK hE hH ls hl
  have C0 : wCx p m c s _ meth cX3_stuckKeys 3 RX3 (some .int) D cs ad b := ⟨hX, hr, hlk, hK, hE⟩
  have hX : CallFix p m c cX3_stuckKeys 3 s _ lw_all RX3 := hX
  have hx := hX.1
  have hb := hX.2.1
  have hown := hX.2.2.2.1
  have hts := hX.2.2.2.2
  have hl : lv_has ls 3 [(0, .ref (G.1 k))] := hl
  unfold v_X3_stuckKeys at hq
  refine lv_iconst (v := 0) hx hb dX3_stuckKeys_0 (by decide) ?_
  refine lv_istore_n (lv' := [(1, .int (0 : Int32)), (0, .ref (G.1 k))]) hx hb dX3_stuckKeys_1 rfl hl (by decide) rfl (fun ls hl => ?_)
  refine lv_iconst (v := 0) hx hb dX3_stuckKeys_2 (by decide) ?_
  refine lv_istore_n (lv' := [(2, .int (0 : Int32)), (1, .int (0 : Int32)), (0, .ref (G.1 k))]) hx hb dX3_stuckKeys_3 rfl hl (by decide) rfl (fun ls hl => ?_)
  obtain ⟨f, hq⟩ := hq
  exact s_X3_stuckKeys_4 hs C0  f (0 : Int32) (0 : Int32) _ _ _ hq hH (lv_sub hl [2, 1, 0] rfl)
abbrev rm_X5_stick : Room := { frames := 9, cells := 0, slots := 0, locals := 140 }
theorem hd_X5_stick : yX5_stick.cls = RX5 ∧ yX5_stick.cls ≠ "java/lang/invoke/MethodHandle" ∧ yX5_stick.cls ≠ "java/lang/invoke/VarHandle" ∧ (parseMethodDescriptor yX5_stick.desc).map (fun d => d.parameters.length) = some 1 := by decide +kernel
set_option maxRecDepth 100000 in
set_option maxHeartbeats 4000000 in
theorem c_X5_stick {l : Launch} {D : va_G} {cs : wC4} {ad : Nat → Nat} {b : Nat} {G : wG} (x1 : Int32) (I : wI) (hp : pre_X5_stick x1 I) : Met l yX5_stick (ws_ yX5_stick cX5_stick 2 (some .int)) rm_X5_stick (va_Pc [.ref (G.1 0), .int x1] (wPr D cs ad b G I)) (va_Qi (fun r I' => post_X5_stick x1 I r I') (wPo D cs b G) (fun q => b ≤ q)) 0 0 (fun q => b ≤ q) := by
  have hq := vc_X5_stick x1 I hp
  refine w_met (by decide) (Nat.le_of_ble_eq_true rfl) ?_
  intro p e s m below meth c hX hr hlk hK hE hH ls hl
  have C0 : wCx p m c s _ meth cX5_stick 2 RX5 (some .int) D cs ad b := ⟨hX, hr, hlk, hK, hE⟩
  have hX : CallFix p m c cX5_stick 2 s _ lw_all RX5 := hX
  have hx := hX.1
  have hb := hX.2.1
  have hown := hX.2.2.2.1
  have hts := hX.2.2.2.2
  have hl : lv_has ls 2 [(0, .ref (G.1 0)), (1, .int x1)] := hl
  unfold v_X5_stick at hq
  refine lv_iload_n hx hb dX5_stick_0 rfl (lv_at hl 1 rfl) ?_
  obtain ⟨hp, hq⟩ := hq
  refine w_cVp hH (w_rS (As := [.int x1]) (rest := []) hX hK hE hH (c_X5_requirePosition  _ _ hp) q2_81 q2_82 q1_1 q2_83 hd_X5_requirePosition.2 ⟨Nat.le_of_ble_eq_true rfl, Nat.le_of_ble_eq_true rfl⟩ ⟨rfl, rfl⟩ rfl hl.1 rfl (Nat.le_of_ble_eq_true rfl) dX5_stick_1 ⟨Nat.zero_le _, Nat.zero_le _⟩) (fun   H locs hpo hH => ?_)
  have hq := hq   hpo
  refine lv_aload_n hx hb dX5_stick_4 rfl (lv_at hl 0 rfl) ?_
  obtain ⟨hp, hq⟩ := hq
  refine w_cV hH (w_rV (As := []) (rest := []) hX hK hE hH (c_X5_save   _ hp) ck5 sh0 q2_60 q2_62 qs1 q1_1 q2_63 hd_X5_save ⟨Nat.le_of_ble_eq_true rfl, Nat.le_of_ble_eq_true rfl⟩ ⟨rfl, rfl⟩ rfl hl.1 rfl (Nat.le_of_ble_eq_true rfl) dX5_stick_5 ⟨Nat.zero_le _, Nat.zero_le _⟩) (fun  I1 H locs hpo hH => ?_)
  have hq := hq  I1 hpo
  refine lv_aload_n hx hb dX5_stick_8 rfl (lv_at hl 0 rfl) ?_
  refine w_getr hX hK hH ck5 sh0 0 1 1 fr5_0 rfl q1_172 dX5_stick_9 ?_
  refine lv_aload_n hx hb dX5_stick_12 rfl (lv_at hl 0 rfl) ?_
  refine w_getr hX hK hH ck5 sh0 0 1 1 fr5_0 rfl q1_172 dX5_stick_13 ?_
  refine w_getiN hX hK hE hH ck3 (sf5_0 sh0) 4 fi3_4 qn1_69 dX5_stick_16 ?_
  refine lv_iconst (v := 1) hx hb dX5_stick_19 (by decide) ?_
  refine lv_iload_n hx hb dX5_stick_20 rfl (lv_at hl 1 rfl) ?_
  refine lv_ishl hx hb dX5_stick_21 ?_
  refine lv_ixor hx hb dX5_stick_22 ?_
  refine w_putiN hX hK hE hH ck3 (sf5_0 sh0) 4 fw3_4 qn1_69 dX5_stick_23 (fun I2 H locs hI hH => ?_)
  have hq := hq I2 hI
  refine lv_aload_n hx hb dX5_stick_26 rfl (lv_at hl 0 rfl) ?_
  refine w_getr hX hK hH ck5 sh0 0 1 1 fr5_0 rfl q1_172 dX5_stick_27 ?_
  obtain ⟨hp, hq⟩ := hq
  refine w_cIp hH (w_rV (As := []) (rest := []) hX hK hE hH (c_X3_stuckKeys (sf5_0 sh0)  _ hp) ck3 (sf5_0 sh0) q3_17 q3_18 q3_19 q1_2 q3_20 hd_X3_stuckKeys ⟨Nat.le_of_ble_eq_true rfl, Nat.le_of_ble_eq_true rfl⟩ ⟨rfl, rfl⟩ rfl hl.1 rfl (Nat.le_of_ble_eq_true rfl) dX5_stick_30 ⟨Nat.zero_le _, Nat.zero_le _⟩) (fun r3  H locs hpo hH => ?_)
  have hq := hq r3  hpo
  exact w_eI hX hr hlk hH hq dX5_stick_33
abbrev rm_X5_stickx : Room := { frames := 9, cells := 1, slots := 6, locals := 140 }

set_option maxRecDepth 100000 in
set_option maxHeartbeats 4000000 in
theorem c_X5_stickx {l : Launch} {D : va_G} {cs : wC4} {ad : Nat → Nat} {b : Nat} {G : wG} (hst : l.stackTraces = false) (x1 : Int32) (I : wI) (hp : pre_X5_stickx x1 I) : vx_Met l yX5_stick (ws_ yX5_stick cX5_stick 2 (some .int)) rm_X5_stickx (va_Pc [.ref (G.1 0), .int x1] (wPr D cs ad b G I)) (va_Qi (fun (_ : Int32) (_ : wI) => False) (wPo D cs b G) (fun q => b ≤ q)) (wXC D cs b G (exc_X5_stick x1 I)) 1 6 (fun q => b ≤ q) := by
  have hq := vc_X5_stickx x1 I hp
  refine w_metx (by decide) (Nat.le_of_ble_eq_true rfl) ?_
  intro p e s m below meth c hX hr hlk hEx hK hE hH ls hl
  have C0 : wCx p m c s _ meth cX5_stick 2 RX5 (some .int) D cs ad b := ⟨hX, hr, hlk, hK, hE⟩
  have hX : CallFix p m c cX5_stick 2 s _ lw_all RX5 := hX
  have hx := hX.1
  have hb := hX.2.1
  have hown := hX.2.2.2.1
  have hts := hX.2.2.2.2
  have hl : lv_has ls 2 [(0, .ref (G.1 0)), (1, .int x1)] := hl
  unfold v_X5_stickx at hq
  refine lv_iload_n hx hb dX5_stick_0 rfl (lv_at hl 1 rfl) ?_
  by_cases hok : ok_X5_requirePosition x1 I
  · have hq := hq.1 hok
    obtain ⟨hp, hq⟩ := hq
    refine w_cVp hH (w_rS (As := [.int x1]) (rest := []) hX hK hE hH (c_X5_requirePosition  _ _ hp) q2_81 q2_82 q1_1 q2_83 hd_X5_requirePosition.2 ⟨Nat.le_of_ble_eq_true rfl, Nat.le_of_ble_eq_true rfl⟩ ⟨rfl, rfl⟩ rfl hl.1 rfl (Nat.le_of_ble_eq_true rfl) dX5_stick_1 ⟨Nat.zero_le _, Nat.zero_le _⟩) (fun   H locs hpo hH => ?_)
    have hq := hq   hpo
    refine lv_aload_n hx hb dX5_stick_4 rfl (lv_at hl 0 rfl) ?_
    obtain ⟨hp, hq⟩ := hq
    refine w_cV hH (w_rV (As := []) (rest := []) hX hK hE hH (c_X5_save   _ hp) ck5 sh0 q2_60 q2_62 qs1 q1_1 q2_63 hd_X5_save ⟨Nat.le_of_ble_eq_true rfl, Nat.le_of_ble_eq_true rfl⟩ ⟨rfl, rfl⟩ rfl hl.1 rfl (Nat.le_of_ble_eq_true rfl) dX5_stick_5 ⟨Nat.zero_le _, Nat.zero_le _⟩) (fun  I1 H locs hpo hH => ?_)
    have hq := hq  I1 hpo
    refine lv_aload_n hx hb dX5_stick_8 rfl (lv_at hl 0 rfl) ?_
    refine w_getr hX hK hH ck5 sh0 0 1 1 fr5_0 rfl q1_172 dX5_stick_9 ?_
    refine lv_aload_n hx hb dX5_stick_12 rfl (lv_at hl 0 rfl) ?_
    refine w_getr hX hK hH ck5 sh0 0 1 1 fr5_0 rfl q1_172 dX5_stick_13 ?_
    refine w_getiN hX hK hE hH ck3 (sf5_0 sh0) 4 fi3_4 qn1_69 dX5_stick_16 ?_
    refine lv_iconst (v := 1) hx hb dX5_stick_19 (by decide) ?_
    refine lv_iload_n hx hb dX5_stick_20 rfl (lv_at hl 1 rfl) ?_
    refine lv_ishl hx hb dX5_stick_21 ?_
    refine lv_ixor hx hb dX5_stick_22 ?_
    refine w_putiN hX hK hE hH ck3 (sf5_0 sh0) 4 fw3_4 qn1_69 dX5_stick_23 (fun I2 H locs hI hH => ?_)
    have hq := hq I2 hI
    refine lv_aload_n hx hb dX5_stick_26 rfl (lv_at hl 0 rfl) ?_
    refine w_getr hX hK hH ck5 sh0 0 1 1 fr5_0 rfl q1_172 dX5_stick_27 ?_
    obtain ⟨hp, hq⟩ := hq
    refine w_cIp hH (w_rV (As := []) (rest := []) hX hK hE hH (c_X3_stuckKeys (sf5_0 sh0)  _ hp) ck3 (sf5_0 sh0) q3_17 q3_18 q3_19 q1_2 q3_20 hd_X3_stuckKeys ⟨Nat.le_of_ble_eq_true rfl, Nat.le_of_ble_eq_true rfl⟩ ⟨rfl, rfl⟩ rfl hl.1 rfl (Nat.le_of_ble_eq_true rfl) dX5_stick_30 ⟨Nat.zero_le _, Nat.zero_le _⟩) (fun r3  H locs hpo hH => ?_)
    have hq := hq r3  hpo
    exact hq.elim
  · have hq := hq.2 hok
    obtain ⟨hp, hq⟩ := hq
    exact w_xV hEx hlk hH (w_xrS (As := [.int x1]) (rest := []) hX hK hE hH (c_X5_requirePositionx hst  _ _ hp) q2_81 q2_82 q1_1 q2_83 hd_X5_requirePosition.2 ⟨Nat.le_of_ble_eq_true rfl, Nat.le_of_ble_eq_true rfl⟩ ⟨rfl, rfl⟩ rfl hl.1 rfl (Nat.le_of_ble_eq_true rfl) dX5_stick_1 ⟨Nat.le_of_ble_eq_true rfl, Nat.le_of_ble_eq_true rfl⟩) (fun E u h => by obtain ⟨h1, h2⟩ := h; subst h1; exact hq E h2)
abbrev rm_X0_notchSum : Room := { frames := 0, cells := 0, slots := 0, locals := 0 }
theorem hd_X0_notchSum : yX0_notchSum.cls = RX0 ∧ yX0_notchSum.cls ≠ "java/lang/invoke/MethodHandle" ∧ yX0_notchSum.cls ≠ "java/lang/invoke/VarHandle" ∧ (parseMethodDescriptor yX0_notchSum.desc).map (fun d => d.parameters.length) = some 0 := by decide +kernel
set_option maxRecDepth 100000 in
set_option maxHeartbeats 4000000 in
theorem s_X0_notchSum_4 {k : Nat} {I : wI} {Q : Int32 → Prop} (hs : wSh k = (0, 0)) (C0 : wCx p m c s args meth cX0_notchSum 3 RX0 (some .int) D cs ad b) : ∀ (f : Nat) (v1 : Int32) (v2 : Int32) (H : Heap) (locs : List Loc) (ls : Array Slot), v_X0_notchSum_4 k I Q f v1 v2 → wH D cs b G I s H locs → lv_has ls 3 [(0, .ref (G.1 k)), (1, .int v1), (2, .int v2)] → W p l e rm_X0_notchSum s m args below meth c H locs 0 0 (MQ below (va_Qi (fun r I' => I' = I ∧ Q r) (wPo D cs b G) (fun q => b ≤ q)) args s 0 0 (fun q => b ≤ q)) (F0 m 4 ls []) := by
  obtain ⟨hX, hr, hlk, hK, hE⟩ := id C0
  have hx := hX.1
  have hb := hX.2.1
  have hown := hX.2.2.2.1
  have hts := hX.2.2.2.2
  intro f
  induction f with
  | zero =>
    intro v1 v2 H locs ls hq
    exact hq.elim
  | succ f hK4 =>
    intro v1 v2 H locs ls hq hH hl
    have hq : g_X0_notchSum_4 k I Q (v_X0_notchSum_4 k I Q f) v1 v2 := hq
    unfold g_X0_notchSum_4 at hq
    refine lv_iload_n hx hb dX0_notchSum_4 rfl (lv_at hl 2 rfl) ?_
    refine lv_bipush (v := 6) hx hb dX0_notchSum_5 (by decide) ?_
    refine lv_icmp_ge (tgt := 25) hx hb dX0_notchSum_7 (by decide) (fun hc => ?_) (fun hc => ?_)
    · have hq := hq.1 hc
      refine lv_iload_n hx hb dX0_notchSum_25 rfl (lv_at hl 1 rfl) ?_
      exact w_eI hX hr hlk hH ⟨rfl, hq⟩ dX0_notchSum_26
    · have hq := hq.2 hc
      refine lv_iload_n hx hb dX0_notchSum_10 rfl (lv_at hl 1 rfl) ?_
      refine lv_aload_n hx hb dX0_notchSum_11 rfl (lv_at hl 0 rfl) ?_
      refine w_getr hX hK hH ck0 hs 1 2 (k + 2) fr0_1 rfl q1_36 dX0_notchSum_12 ?_
      refine lv_iload_n hx hb dX0_notchSum_15 rfl (lv_at hl 2 rfl) ?_
      obtain ⟨hc, hq⟩ := hq
      refine w_iald hX hK hH (sf0_1 hs) hc dX0_notchSum_16 ?_
      refine lv_iadd hx hb dX0_notchSum_17 ?_
      refine lv_istore_n (lv' := [(1, .int (v1 + (I (k + 2) (v2).toNatClampNeg))), (0, .ref (G.1 k)), (2, .int v2)]) hx hb dX0_notchSum_18 rfl hl (by decide) rfl (fun ls hl => ?_)
      refine lv_iinc (v := (v2 + (1 : Int32))) (lv' := [(2, .int (v2 + (1 : Int32))), (1, .int (v1 + (I (k + 2) (v2).toNatClampNeg))), (0, .ref (G.1 k))]) hx hb dX0_notchSum_19 hl (k := 2) rfl rfl (by decide) rfl (fun ls hl => ?_)
      refine lv_goto (tgt := 4) hx hb dX0_notchSum_22 (by decide) ?_
      exact hK4 (v1 + (I (k + 2) (v2).toNatClampNeg)) (v2 + (1 : Int32)) _ _ _ hq hH (lv_sub hl [2, 1, 0] rfl)
set_option maxRecDepth 100000 in
set_option maxHeartbeats 4000000 in
theorem c_X0_notchSum {l : Launch} {D : va_G} {cs : wC4} {ad : Nat → Nat} {b : Nat} {G : wG} {k : Nat} (hs : wSh k = (0, 0))  (I : wI) (hp : pre_X0_notchSum k I) : Met l yX0_notchSum (ws_ yX0_notchSum cX0_notchSum 3 (some .int)) rm_X0_notchSum (va_Pc [.ref (G.1 k)] (wPr D cs ad b G I)) (va_Qi (fun r I' => I' = I ∧ post_X0_notchSum k I r) (wPo D cs b G) (fun q => b ≤ q)) 0 0 (fun q => b ≤ q) := by
  have hq := vc_X0_notchSum k I hp
  refine w_met (by decide) (Nat.le_of_ble_eq_true rfl) ?_
  intro p e s m below meth c hX hr hlk hK hE hH ls hl
  have C0 : wCx p m c s _ meth cX0_notchSum 3 RX0 (some .int) D cs ad b := ⟨hX, hr, hlk, hK, hE⟩
  have hX : CallFix p m c cX0_notchSum 3 s _ lw_all RX0 := hX
  have hx := hX.1
  have hb := hX.2.1
  have hown := hX.2.2.2.1
  have hts := hX.2.2.2.2
  have hl : lv_has ls 3 [(0, .ref (G.1 k))] := hl
  unfold v_X0_notchSum at hq
  refine lv_iconst (v := 0) hx hb dX0_notchSum_0 (by decide) ?_
  refine lv_istore_n (lv' := [(1, .int (0 : Int32)), (0, .ref (G.1 k))]) hx hb dX0_notchSum_1 rfl hl (by decide) rfl (fun ls hl => ?_)
  refine lv_iconst (v := 0) hx hb dX0_notchSum_2 (by decide) ?_
  refine lv_istore_n (lv' := [(2, .int (0 : Int32)), (1, .int (0 : Int32)), (0, .ref (G.1 k))]) hx hb dX0_notchSum_3 rfl hl (by decide) rfl (fun ls hl => ?_)
  obtain ⟨f, hq⟩ := hq
  exact s_X0_notchSum_4 hs C0  f (0 : Int32) (0 : Int32) _ _ _ hq hH (lv_sub hl [2, 1, 0] rfl)
abbrev rm_X5_learn : Room := { frames := 4, cells := 0, slots := 0, locals := 85 }
theorem hd_X5_learn : yX5_learn.cls = RX5 ∧ yX5_learn.cls ≠ "java/lang/invoke/MethodHandle" ∧ yX5_learn.cls ≠ "java/lang/invoke/VarHandle" ∧ (parseMethodDescriptor yX5_learn.desc).map (fun d => d.parameters.length) = some 0 := by decide +kernel
set_option maxRecDepth 100000 in
set_option maxHeartbeats 4000000 in
theorem c_X5_learn {l : Launch} {D : va_G} {cs : wC4} {ad : Nat → Nat} {b : Nat} {G : wG}  (I : wI) (hp : pre_X5_learn  I) : Met l yX5_learn (ws_ yX5_learn cX5_learn 1 (some .int)) rm_X5_learn (va_Pc [.ref (G.1 0)] (wPr D cs ad b G I)) (va_Qi (fun r I' => post_X5_learn  I r I') (wPo D cs b G) (fun q => b ≤ q)) 0 0 (fun q => b ≤ q) := by
  have hq := vc_X5_learn  I hp
  refine w_met (by decide) (Nat.le_of_ble_eq_true rfl) ?_
  intro p e s m below meth c hX hr hlk hK hE hH ls hl
  have C0 : wCx p m c s _ meth cX5_learn 1 RX5 (some .int) D cs ad b := ⟨hX, hr, hlk, hK, hE⟩
  have hX : CallFix p m c cX5_learn 1 s _ lw_all RX5 := hX
  have hx := hX.1
  have hb := hX.2.1
  have hown := hX.2.2.2.1
  have hts := hX.2.2.2.2
  have hl : lv_has ls 1 [(0, .ref (G.1 0))] := hl
  unfold v_X5_learn at hq
  refine lv_aload_n hx hb dX5_learn_0 rfl (lv_at hl 0 rfl) ?_
  obtain ⟨hp, hq⟩ := hq
  refine w_cV hH (w_rV (As := []) (rest := []) hX hK hE hH (c_X5_save   _ hp) ck5 sh0 q2_60 q2_62 qs1 q1_1 q2_63 hd_X5_save ⟨Nat.le_of_ble_eq_true rfl, Nat.le_of_ble_eq_true rfl⟩ ⟨rfl, rfl⟩ rfl hl.1 rfl (Nat.le_of_ble_eq_true rfl) dX5_learn_1 ⟨Nat.zero_le _, Nat.zero_le _⟩) (fun  I1 H locs hpo hH => ?_)
  have hq := hq  I1 hpo
  refine lv_aload_n hx hb dX5_learn_4 rfl (lv_at hl 0 rfl) ?_
  refine w_getr hX hK hH ck5 sh0 0 1 1 fr5_0 rfl q1_172 dX5_learn_5 ?_
  refine w_getrN hX hK hE hH ck3 (sf5_0 sh0) 2 7 8 fr3_2 rfl qn1_64 dX5_learn_8 ?_
  refine lv_aload_n hx hb dX5_learn_11 rfl (lv_at hl 0 rfl) ?_
  refine w_getr hX hK hH ck5 sh0 0 1 1 fr5_0 rfl q1_172 dX5_learn_12 ?_
  refine w_getrN hX hK hE hH ck3 (sf5_0 sh0) 0 1 2 fr3_0 rfl qn1_58 dX5_learn_15 ?_
  obtain ⟨hp, hq⟩ := hq
  refine w_cV hH (w_rV (As := [.ref (G.1 2)]) (rest := []) hX hK hE hH (c_X0_copyFrom (sf3_2 (sf5_0 sh0)) (sf3_0 (sf5_0 sh0))  _ hp) ck0 (sf3_2 (sf5_0 sh0)) q2_184 q2_45 q2_46 q1_3 q2_47 hd_X0_copyFrom ⟨Nat.le_of_ble_eq_true rfl, Nat.le_of_ble_eq_true rfl⟩ ⟨rfl, rfl⟩ rfl hl.1 rfl (Nat.le_of_ble_eq_true rfl) dX5_learn_18 ⟨Nat.zero_le _, Nat.zero_le _⟩) (fun  I2 H locs hpo hH => ?_)
  have hq := hq  I2 hpo
  refine lv_aload_n hx hb dX5_learn_21 rfl (lv_at hl 0 rfl) ?_
  refine w_getr hX hK hH ck5 sh0 0 1 1 fr5_0 rfl q1_172 dX5_learn_22 ?_
  refine lv_iconst (v := 1) hx hb dX5_learn_25 (by decide) ?_
  refine w_putzN (by decide) hX hK hE hH ck3 (sf5_0 sh0) 3 fw3_3 qn1_67 dX5_learn_26 (fun I3 H locs hI hH => ?_)
  have hq := hq I3 hI
  refine lv_aload_n hx hb dX5_learn_29 rfl (lv_at hl 0 rfl) ?_
  refine w_getr hX hK hH ck5 sh0 0 1 1 fr5_0 rfl q1_172 dX5_learn_30 ?_
  refine w_getrN hX hK hE hH ck3 (sf5_0 sh0) 0 1 2 fr3_0 rfl qn1_58 dX5_learn_33 ?_
  obtain ⟨hp, hq⟩ := hq
  refine w_cIp hH (w_rV (As := []) (rest := []) hX hK hE hH (c_X0_notchSum (sf3_0 (sf5_0 sh0))  _ hp) ck0 (sf3_0 (sf5_0 sh0)) q3_0 q3_1 q3_2 q1_3 q3_3 hd_X0_notchSum ⟨Nat.le_of_ble_eq_true rfl, Nat.le_of_ble_eq_true rfl⟩ ⟨rfl, rfl⟩ rfl hl.1 rfl (Nat.le_of_ble_eq_true rfl) dX5_learn_36 ⟨Nat.zero_le _, Nat.zero_le _⟩) (fun r4  H locs hpo hH => ?_)
  have hq := hq r4  hpo
  exact w_eI hX hr hlk hH hq dX5_learn_39
abbrev rm_X5_goBack : Room := { frames := 8, cells := 0, slots := 0, locals := 120 }
theorem hd_X5_goBack : yX5_goBack.cls = RX5 ∧ yX5_goBack.cls ≠ "java/lang/invoke/MethodHandle" ∧ yX5_goBack.cls ≠ "java/lang/invoke/VarHandle" ∧ (parseMethodDescriptor yX5_goBack.desc).map (fun d => d.parameters.length) = some 0 := by decide +kernel
set_option maxRecDepth 100000 in
set_option maxHeartbeats 4000000 in
theorem c_X5_goBack {l : Launch} {D : va_G} {cs : wC4} {ad : Nat → Nat} {b : Nat} {G : wG}  (I : wI) (hp : pre_X5_goBack  I) : Met l yX5_goBack (ws_ yX5_goBack cX5_goBack 1 (some .int)) rm_X5_goBack (va_Pc [.ref (G.1 0)] (wPr D cs ad b G I)) (va_Qi (fun r I' => post_X5_goBack  I r I') (wPo D cs b G) (fun q => b ≤ q)) 0 0 (fun q => b ≤ q) := by
  have hq := vc_X5_goBack  I hp
  refine w_met (by decide) (Nat.le_of_ble_eq_true rfl) ?_
  intro p e s m below meth c hX hr hlk hK hE hH ls hl
  have C0 : wCx p m c s _ meth cX5_goBack 1 RX5 (some .int) D cs ad b := ⟨hX, hr, hlk, hK, hE⟩
  have hX : CallFix p m c cX5_goBack 1 s _ lw_all RX5 := hX
  have hx := hX.1
  have hb := hX.2.1
  have hown := hX.2.2.2.1
  have hts := hX.2.2.2.2
  have hl : lv_has ls 1 [(0, .ref (G.1 0))] := hl
  unfold v_X5_goBack at hq
  refine lv_aload_n hx hb dX5_goBack_0 rfl (lv_at hl 0 rfl) ?_
  refine w_geti hX hK hH ck5 sh0 2 fi5_2 q1_174 dX5_goBack_1 ?_
  refine lv_if_ne (tgt := 17) hx hb dX5_goBack_4 (by decide) (fun hc => ?_) (fun hc => ?_)
  · have hq := hq.1 hc
    refine lv_aload_n hx hb dX5_goBack_17 rfl (lv_at hl 0 rfl) ?_
    obtain ⟨hp, hq⟩ := hq
    refine w_cV hH (w_rV (As := []) (rest := []) hX hK hE hH (c_X5_save   _ hp) ck5 sh0 q2_60 q2_62 qs1 q1_1 q2_63 hd_X5_save ⟨Nat.le_of_ble_eq_true rfl, Nat.le_of_ble_eq_true rfl⟩ ⟨rfl, rfl⟩ rfl hl.1 rfl (Nat.le_of_ble_eq_true rfl) dX5_goBack_18 ⟨Nat.zero_le _, Nat.zero_le _⟩) (fun  I1 H locs hpo hH => ?_)
    have hq := hq  I1 hpo
    refine lv_aload_n hx hb dX5_goBack_21 rfl (lv_at hl 0 rfl) ?_
    refine w_getr hX hK hH ck5 sh0 0 1 1 fr5_0 rfl q1_172 dX5_goBack_22 ?_
    refine lv_aload_n hx hb dX5_goBack_25 rfl (lv_at hl 0 rfl) ?_
    refine w_getr hX hK hH ck5 sh0 1 12 12 fr5_1 rfl q1_173 dX5_goBack_26 ?_
    obtain ⟨hp, hq⟩ := hq
    refine w_cV hH (w_rV (As := [.ref (G.1 12)]) (rest := []) hX hK hE hH (c_X3_copyFrom (sf5_0 sh0) (sf5_1 sh0)  _ hp) ck3 (sf5_0 sh0) q2_40 q2_41 q2_42 q1_2 q2_43 hd_X3_copyFrom ⟨Nat.le_of_ble_eq_true rfl, Nat.le_of_ble_eq_true rfl⟩ ⟨rfl, rfl⟩ rfl hl.1 rfl (Nat.le_of_ble_eq_true rfl) dX5_goBack_29 ⟨Nat.zero_le _, Nat.zero_le _⟩) (fun  I2 H locs hpo hH => ?_)
    have hq := hq  I2 hpo
    refine lv_aload_n hx hb dX5_goBack_32 rfl (lv_at hl 0 rfl) ?_
    refine w_getr hX hK hH ck5 sh0 0 1 1 fr5_0 rfl q1_172 dX5_goBack_33 ?_
    refine w_getiN hX hK hE hH ck3 (sf5_0 sh0) 6 fi3_6 qn1_72 dX5_goBack_36 ?_
    exact w_eI hX hr hlk hH hq dX5_goBack_39
  · have hq := hq.2 hc
    exact hq.elim
abbrev rm_X5_goBackx : Room := { frames := 8, cells := 1, slots := 6, locals := 120 }

set_option maxRecDepth 100000 in
set_option maxHeartbeats 4000000 in
theorem c_X5_goBackx {l : Launch} {D : va_G} {cs : wC4} {ad : Nat → Nat} {b : Nat} {G : wG} (hst : l.stackTraces = false)  (I : wI) (hp : pre_X5_goBackx  I) : vx_Met l yX5_goBack (ws_ yX5_goBack cX5_goBack 1 (some .int)) rm_X5_goBackx (va_Pc [.ref (G.1 0)] (wPr D cs ad b G I)) (va_Qi (fun (_ : Int32) (_ : wI) => False) (wPo D cs b G) (fun q => b ≤ q)) (wXC D cs b G (exc_X5_goBack  I)) 1 6 (fun q => b ≤ q) := by
  have hq := vc_X5_goBackx  I hp
  refine w_metx (by decide) (Nat.le_of_ble_eq_true rfl) ?_
  intro p e s m below meth c hX hr hlk hEx hK hE hH ls hl
  have C0 : wCx p m c s _ meth cX5_goBack 1 RX5 (some .int) D cs ad b := ⟨hX, hr, hlk, hK, hE⟩
  have hX : CallFix p m c cX5_goBack 1 s _ lw_all RX5 := hX
  have hx := hX.1
  have hb := hX.2.1
  have hown := hX.2.2.2.1
  have hts := hX.2.2.2.2
  have hl : lv_has ls 1 [(0, .ref (G.1 0))] := hl
  unfold v_X5_goBackx at hq
  refine lv_aload_n hx hb dX5_goBack_0 rfl (lv_at hl 0 rfl) ?_
  refine w_geti hX hK hH ck5 sh0 2 fi5_2 q1_174 dX5_goBack_1 ?_
  refine lv_if_ne (tgt := 17) hx hb dX5_goBack_4 (by decide) (fun hc => ?_) (fun hc => ?_)
  · have hq := hq.1 hc
    refine lv_aload_n hx hb dX5_goBack_17 rfl (lv_at hl 0 rfl) ?_
    obtain ⟨hp, hq⟩ := hq
    refine w_cV hH (w_rV (As := []) (rest := []) hX hK hE hH (c_X5_save   _ hp) ck5 sh0 q2_60 q2_62 qs1 q1_1 q2_63 hd_X5_save ⟨Nat.le_of_ble_eq_true rfl, Nat.le_of_ble_eq_true rfl⟩ ⟨rfl, rfl⟩ rfl hl.1 rfl (Nat.le_of_ble_eq_true rfl) dX5_goBack_18 ⟨Nat.zero_le _, Nat.zero_le _⟩) (fun  I1 H locs hpo hH => ?_)
    have hq := hq  I1 hpo
    refine lv_aload_n hx hb dX5_goBack_21 rfl (lv_at hl 0 rfl) ?_
    refine w_getr hX hK hH ck5 sh0 0 1 1 fr5_0 rfl q1_172 dX5_goBack_22 ?_
    refine lv_aload_n hx hb dX5_goBack_25 rfl (lv_at hl 0 rfl) ?_
    refine w_getr hX hK hH ck5 sh0 1 12 12 fr5_1 rfl q1_173 dX5_goBack_26 ?_
    obtain ⟨hp, hq⟩ := hq
    refine w_cV hH (w_rV (As := [.ref (G.1 12)]) (rest := []) hX hK hE hH (c_X3_copyFrom (sf5_0 sh0) (sf5_1 sh0)  _ hp) ck3 (sf5_0 sh0) q2_40 q2_41 q2_42 q1_2 q2_43 hd_X3_copyFrom ⟨Nat.le_of_ble_eq_true rfl, Nat.le_of_ble_eq_true rfl⟩ ⟨rfl, rfl⟩ rfl hl.1 rfl (Nat.le_of_ble_eq_true rfl) dX5_goBack_29 ⟨Nat.zero_le _, Nat.zero_le _⟩) (fun  I2 H locs hpo hH => ?_)
    have hq := hq  I2 hpo
    refine lv_aload_n hx hb dX5_goBack_32 rfl (lv_at hl 0 rfl) ?_
    refine w_getr hX hK hH ck5 sh0 0 1 1 fr5_0 rfl q1_172 dX5_goBack_33 ?_
    refine w_getiN hX hK hE hH ck3 (sf5_0 sh0) 6 fi3_6 qn1_72 dX5_goBack_36 ?_
    exact hq.elim
  · have hq := hq.2 hc
    exact w_throw th_X5_76_173_80 hX hst hlk hEx hE hH hl.1 dX5_goBack_7 dX5_goBack_10 dX5_goBack_11 dX5_goBack_13 dX5_goBack_16 ⟨Nat.le_of_ble_eq_true rfl, Nat.le_of_ble_eq_true rfl, Nat.le_of_ble_eq_true rfl, Nat.le_of_ble_eq_true rfl⟩ hq
abbrev rm_X5_undo : Room := { frames := 8, cells := 0, slots := 0, locals := 120 }
theorem hd_X5_undo : yX5_undo.cls = RX5 ∧ yX5_undo.cls ≠ "java/lang/invoke/MethodHandle" ∧ yX5_undo.cls ≠ "java/lang/invoke/VarHandle" ∧ (parseMethodDescriptor yX5_undo.desc).map (fun d => d.parameters.length) = some 0 := by decide +kernel
set_option maxRecDepth 100000 in
set_option maxHeartbeats 4000000 in
theorem s_X5_undo_58 {Q : Int32 → wI → Prop} (C0 : wCx p m c s args meth cX5_undo 2 RX5 (some .int) D cs ad b) : ∀  (I : wI) (H : Heap) (locs : List Loc) (ls : Array Slot), v_X5_undo_58 Q  I → wH D cs b G I s H locs → lv_has ls 2 [(0, .ref (G.1 0))] → W p l e rm_X5_undo s m args below meth c H locs 0 0 (MQ below (va_Qi (Q) (wPo D cs b G) (fun q => b ≤ q)) args s 0 0 (fun q => b ≤ q)) (F0 m 58 ls []) := by
  obtain ⟨hX, hr, hlk, hK, hE⟩ := id C0
  have hx := hX.1
  have hb := hX.2.1
  have hown := hX.2.2.2.1
  have hts := hX.2.2.2.2
  intro  I H locs ls hq hH hl
  unfold v_X5_undo_58 at hq
  refine lv_aload_n hx hb dX5_undo_58 rfl (lv_at hl 0 rfl) ?_
  refine w_geti hX hK hH ck5 sh0 4 fi5_4 q1_176 dX5_undo_59 ?_
  exact w_eI hX hr hlk hH hq dX5_undo_62
set_option maxRecDepth 100000 in
set_option maxHeartbeats 4000000 in
theorem s_X5_undo_16 {Q : Int32 → wI → Prop} (C0 : wCx p m c s args meth cX5_undo 2 RX5 (some .int) D cs ad b) : ∀  (I : wI) (H : Heap) (locs : List Loc) (ls : Array Slot), v_X5_undo_16 Q  I → wH D cs b G I s H locs → lv_has ls 2 [] → W p l e rm_X5_undo s m args below meth c H locs 0 0 (MQ below (va_Qi (Q) (wPo D cs b G) (fun q => b ≤ q)) args s 0 0 (fun q => b ≤ q)) (F0 m 16 ls []) := by
  obtain ⟨hX, hr, hlk, hK, hE⟩ := id C0
  have hx := hX.1
  have hb := hX.2.1
  have hown := hX.2.2.2.1
  have hts := hX.2.2.2.2
  intro  I H locs ls hq hH hl
  unfold v_X5_undo_16 at hq
  exact hq.elim
set_option maxRecDepth 100000 in
set_option maxHeartbeats 4000000 in
theorem c_X5_undo {l : Launch} {D : va_G} {cs : wC4} {ad : Nat → Nat} {b : Nat} {G : wG}  (I : wI) (hp : pre_X5_undo  I) : Met l yX5_undo (ws_ yX5_undo cX5_undo 2 (some .int)) rm_X5_undo (va_Pc [.ref (G.1 0)] (wPr D cs ad b G I)) (va_Qi (fun r I' => post_X5_undo  I r I') (wPo D cs b G) (fun q => b ≤ q)) 0 0 (fun q => b ≤ q) := by
  have hq := vc_X5_undo  I hp
  refine w_met (by decide) (Nat.le_of_ble_eq_true rfl) ?_
  intro p e s m below meth c hX hr hlk hK hE hH ls hl
  have C0 : wCx p m c s _ meth cX5_undo 2 RX5 (some .int) D cs ad b := ⟨hX, hr, hlk, hK, hE⟩
  have hX : CallFix p m c cX5_undo 2 s _ lw_all RX5 := hX
  have hx := hX.1
  have hb := hX.2.1
  have hown := hX.2.2.2.1
  have hts := hX.2.2.2.2
  have hl : lv_has ls 2 [(0, .ref (G.1 0))] := hl
  unfold v_X5_undo at hq
  refine lv_aload_n hx hb dX5_undo_0 rfl (lv_at hl 0 rfl) ?_
  refine w_geti hX hK hH ck5 sh0 4 fi5_4 q1_176 dX5_undo_1 ?_
  refine lv_if_le (tgt := 16) hx hb dX5_undo_4 (by decide) (fun hc => ?_) (fun hc => ?_)
  · have hq := hq.1 hc
    exact s_X5_undo_16  C0   _ _ _ _ hq hH (lv_sub hl [] rfl)
  · have hq := hq.2 hc
    refine lv_aload_n hx hb dX5_undo_7 rfl (lv_at hl 0 rfl) ?_
    refine w_geti hX hK hH ck5 sh0 4 fi5_4 q1_176 dX5_undo_8 ?_
    refine lv_bipush (v := 6) hx hb dX5_undo_11 (by decide) ?_
    refine lv_icmp_le (tgt := 26) hx hb dX5_undo_13 (by decide) (fun hc => ?_) (fun hc => ?_)
    · have hq := hq.1 hc
      refine lv_aload_n hx hb dX5_undo_26 rfl (lv_at hl 0 rfl) ?_
      refine lv_dup hx hb dX5_undo_27 rfl ?_
      refine w_geti hX hK hH ck5 sh0 4 fi5_4 q1_176 dX5_undo_28 ?_
      refine lv_iconst (v := 1) hx hb dX5_undo_31 (by decide) ?_
      refine lv_isub hx hb dX5_undo_32 ?_
      refine w_puti hX hK hH ck5 sh0 4 fw5_4 q1_176 dX5_undo_33 (fun I1 H locs hI hH => ?_)
      have hq := hq I1 hI
      refine lv_aload_n hx hb dX5_undo_36 rfl (lv_at hl 0 rfl) ?_
      refine w_getr hX hK hH ck5 sh0 3 23 23 fr5_3 rfl q1_175 dX5_undo_37 ?_
      refine lv_aload_n hx hb dX5_undo_40 rfl (lv_at hl 0 rfl) ?_
      refine w_geti hX hK hH ck5 sh0 4 fi5_4 q1_176 dX5_undo_41 ?_
      obtain ⟨hc, hq⟩ := hq
      refine w_aald hX hK hH (sf5_3 sh0) hc dX5_undo_44 ?_
      refine lv_astore_n (lv' := [(1, .ref (G.1 (wSv (I1 23 ((I1 0 4)).toNatClampNeg)))), (0, .ref (G.1 0))]) hx hb dX5_undo_45 rfl hl (by decide) rfl (fun ls hl => ?_)
      refine lv_aload_n hx hb dX5_undo_46 rfl (lv_at hl 0 rfl) ?_
      refine lv_ifnull hx hb dX5_undo_47 ?_
      refine lv_aload_n hx hb dX5_undo_50 rfl (lv_at hl 1 rfl) ?_
      refine w_getr hX hK hH ck5 sh0 0 1 1 fr5_0 rfl q1_172 dX5_undo_51 ?_
      refine lv_aload_n hx hb dX5_undo_54 rfl (lv_at hl 0 rfl) ?_
      obtain ⟨hz61, hq⟩ := hq
      obtain ⟨hp, hq⟩ := hq
      refine w_cV hH (w_rV (As := [.ref (G.1 (wSv (I1 23 ((I1 0 4)).toNatClampNeg)))]) (rest := []) hX hK hE hH (c_X3_copyFrom (sf5_0 sh0) (wSv_sh hz61)  _ hp) ck3 (sf5_0 sh0) q2_40 q2_41 q2_42 q1_2 q2_43 hd_X3_copyFrom ⟨Nat.le_of_ble_eq_true rfl, Nat.le_of_ble_eq_true rfl⟩ ⟨rfl, rfl⟩ rfl hl.1 rfl (Nat.le_of_ble_eq_true rfl) dX5_undo_55 ⟨Nat.zero_le _, Nat.zero_le _⟩) (fun  I2 H locs hpo hH => ?_)
      have hq := hq  I2 hpo
      exact s_X5_undo_58  C0   _ _ _ _ hq hH (lv_sub hl [1] rfl)
    · have hq := hq.2 hc
      exact s_X5_undo_16  C0   _ _ _ _ hq hH (lv_sub hl [] rfl)
abbrev rm_X5_undox : Room := { frames := 8, cells := 1, slots := 6, locals := 120 }

set_option maxRecDepth 100000 in
set_option maxHeartbeats 4000000 in
theorem s_X5_undox_58 {X : String → wI → Prop} (hst : l.stackTraces = false) (hEx : ∀ x ∈ c.exceptionTable.toList, False) (C0 : wCx p m c s args meth cX5_undo 2 RX5 (some .int) D cs ad b) : ∀  (I : wI) (H : Heap) (locs : List Loc) (ls : Array Slot), v_X5_undox_58 X  I → wH D cs b G I s H locs → lv_has ls 2 [(0, .ref (G.1 0))] → W p l e rm_X5_undox s m args below meth c H locs 0 0 (vx_MQ below (va_Qi (fun (_ : Int32) (_ : wI) => False) (wPo D cs b G) (fun q => b ≤ q)) (wXC D cs b G X) args s 1 6 (fun q => b ≤ q)) (F0 m 58 ls []) := by
  obtain ⟨hX, hr, hlk, hK, hE⟩ := id C0
  have hx := hX.1
  have hb := hX.2.1
  have hown := hX.2.2.2.1
  have hts := hX.2.2.2.2
  intro  I H locs ls hq hH hl
  unfold v_X5_undox_58 at hq
  refine lv_aload_n hx hb dX5_undo_58 rfl (lv_at hl 0 rfl) ?_
  refine w_geti hX hK hH ck5 sh0 4 fi5_4 q1_176 dX5_undo_59 ?_
  exact hq.elim
set_option maxRecDepth 100000 in
set_option maxHeartbeats 4000000 in
theorem s_X5_undox_16 {X : String → wI → Prop} (hst : l.stackTraces = false) (hEx : ∀ x ∈ c.exceptionTable.toList, False) (C0 : wCx p m c s args meth cX5_undo 2 RX5 (some .int) D cs ad b) : ∀  (I : wI) (H : Heap) (locs : List Loc) (ls : Array Slot), v_X5_undox_16 X  I → wH D cs b G I s H locs → lv_has ls 2 [] → W p l e rm_X5_undox s m args below meth c H locs 0 0 (vx_MQ below (va_Qi (fun (_ : Int32) (_ : wI) => False) (wPo D cs b G) (fun q => b ≤ q)) (wXC D cs b G X) args s 1 6 (fun q => b ≤ q)) (F0 m 16 ls []) := by
  obtain ⟨hX, hr, hlk, hK, hE⟩ := id C0
  have hx := hX.1
  have hb := hX.2.1
  have hown := hX.2.2.2.1
  have hts := hX.2.2.2.2
  intro  I H locs ls hq hH hl
  unfold v_X5_undox_16 at hq
  exact w_throw th_X5_76_175_80 hX hst hlk hEx hE hH hl.1 dX5_undo_16 dX5_undo_19 dX5_undo_20 dX5_undo_22 dX5_undo_25 ⟨Nat.le_of_ble_eq_true rfl, Nat.le_of_ble_eq_true rfl, Nat.le_of_ble_eq_true rfl, Nat.le_of_ble_eq_true rfl⟩ hq
set_option maxRecDepth 100000 in
set_option maxHeartbeats 4000000 in
theorem c_X5_undox {l : Launch} {D : va_G} {cs : wC4} {ad : Nat → Nat} {b : Nat} {G : wG} (hst : l.stackTraces = false)  (I : wI) (hp : pre_X5_undox  I) : vx_Met l yX5_undo (ws_ yX5_undo cX5_undo 2 (some .int)) rm_X5_undox (va_Pc [.ref (G.1 0)] (wPr D cs ad b G I)) (va_Qi (fun (_ : Int32) (_ : wI) => False) (wPo D cs b G) (fun q => b ≤ q)) (wXC D cs b G (exc_X5_undo  I)) 1 6 (fun q => b ≤ q) := by
  have hq := vc_X5_undox  I hp
  refine w_metx (by decide) (Nat.le_of_ble_eq_true rfl) ?_
  intro p e s m below meth c hX hr hlk hEx hK hE hH ls hl
  have C0 : wCx p m c s _ meth cX5_undo 2 RX5 (some .int) D cs ad b := ⟨hX, hr, hlk, hK, hE⟩
  have hX : CallFix p m c cX5_undo 2 s _ lw_all RX5 := hX
  have hx := hX.1
  have hb := hX.2.1
  have hown := hX.2.2.2.1
  have hts := hX.2.2.2.2
  have hl : lv_has ls 2 [(0, .ref (G.1 0))] := hl
  unfold v_X5_undox at hq
  refine lv_aload_n hx hb dX5_undo_0 rfl (lv_at hl 0 rfl) ?_
  refine w_geti hX hK hH ck5 sh0 4 fi5_4 q1_176 dX5_undo_1 ?_
  refine lv_if_le (tgt := 16) hx hb dX5_undo_4 (by decide) (fun hc => ?_) (fun hc => ?_)
  · have hq := hq.1 hc
    exact s_X5_undox_16 hst hEx C0   _ _ _ _ hq hH (lv_sub hl [] rfl)
  · have hq := hq.2 hc
    refine lv_aload_n hx hb dX5_undo_7 rfl (lv_at hl 0 rfl) ?_
    refine w_geti hX hK hH ck5 sh0 4 fi5_4 q1_176 dX5_undo_8 ?_
    refine lv_bipush (v := 6) hx hb dX5_undo_11 (by decide) ?_
    refine lv_icmp_le (tgt := 26) hx hb dX5_undo_13 (by decide) (fun hc => ?_) (fun hc => ?_)
    · have hq := hq.1 hc
      refine lv_aload_n hx hb dX5_undo_26 rfl (lv_at hl 0 rfl) ?_
      refine lv_dup hx hb dX5_undo_27 rfl ?_
      refine w_geti hX hK hH ck5 sh0 4 fi5_4 q1_176 dX5_undo_28 ?_
      refine lv_iconst (v := 1) hx hb dX5_undo_31 (by decide) ?_
      refine lv_isub hx hb dX5_undo_32 ?_
      refine w_puti hX hK hH ck5 sh0 4 fw5_4 q1_176 dX5_undo_33 (fun I1 H locs hI hH => ?_)
      have hq := hq I1 hI
      refine lv_aload_n hx hb dX5_undo_36 rfl (lv_at hl 0 rfl) ?_
      refine w_getr hX hK hH ck5 sh0 3 23 23 fr5_3 rfl q1_175 dX5_undo_37 ?_
      refine lv_aload_n hx hb dX5_undo_40 rfl (lv_at hl 0 rfl) ?_
      refine w_geti hX hK hH ck5 sh0 4 fi5_4 q1_176 dX5_undo_41 ?_
      obtain ⟨hc, hq⟩ := hq
      refine w_aald hX hK hH (sf5_3 sh0) hc dX5_undo_44 ?_
      refine lv_astore_n (lv' := [(1, .ref (G.1 (wSv (I1 23 ((I1 0 4)).toNatClampNeg)))), (0, .ref (G.1 0))]) hx hb dX5_undo_45 rfl hl (by decide) rfl (fun ls hl => ?_)
      refine lv_aload_n hx hb dX5_undo_46 rfl (lv_at hl 0 rfl) ?_
      refine lv_ifnull hx hb dX5_undo_47 ?_
      refine lv_aload_n hx hb dX5_undo_50 rfl (lv_at hl 1 rfl) ?_
      refine w_getr hX hK hH ck5 sh0 0 1 1 fr5_0 rfl q1_172 dX5_undo_51 ?_
      refine lv_aload_n hx hb dX5_undo_54 rfl (lv_at hl 0 rfl) ?_
      obtain ⟨hz61, hq⟩ := hq
      obtain ⟨hp, hq⟩ := hq
      refine w_cV hH (w_rV (As := [.ref (G.1 (wSv (I1 23 ((I1 0 4)).toNatClampNeg)))]) (rest := []) hX hK hE hH (c_X3_copyFrom (sf5_0 sh0) (wSv_sh hz61)  _ hp) ck3 (sf5_0 sh0) q2_40 q2_41 q2_42 q1_2 q2_43 hd_X3_copyFrom ⟨Nat.le_of_ble_eq_true rfl, Nat.le_of_ble_eq_true rfl⟩ ⟨rfl, rfl⟩ rfl hl.1 rfl (Nat.le_of_ble_eq_true rfl) dX5_undo_55 ⟨Nat.zero_le _, Nat.zero_le _⟩) (fun  I2 H locs hpo hH => ?_)
      have hq := hq  I2 hpo
      exact s_X5_undox_58 hst hEx C0   _ _ _ _ hq hH (lv_sub hl [1] rfl)
    · have hq := hq.2 hc
      exact s_X5_undox_16 hst hEx C0   _ _ _ _ hq hH (lv_sub hl [] rfl)
abbrev rm_X0_discAt : Room := { frames := 0, cells := 0, slots := 0, locals := 0 }
theorem hd_X0_discAt : yX0_discAt.cls = RX0 ∧ yX0_discAt.cls ≠ "java/lang/invoke/MethodHandle" ∧ yX0_discAt.cls ≠ "java/lang/invoke/VarHandle" ∧ (parseMethodDescriptor yX0_discAt.desc).map (fun d => d.parameters.length) = some 1 := by decide +kernel
set_option maxRecDepth 100000 in
set_option maxHeartbeats 4000000 in
theorem s_X0_discAt_20 {k : Nat} {x1 : Int32} {I : wI} {Q : Int32 → Prop} (hs : wSh k = (0, 0)) (C0 : wCx p m c s args meth cX0_discAt 2 RX0 (some .int) D cs ad b) : ∀ (t0 : Int32) (H : Heap) (locs : List Loc) (ls : Array Slot), v_X0_discAt_20 k x1 I Q t0 → wH D cs b G I s H locs → lv_has ls 2 [] → W p l e rm_X0_discAt s m args below meth c H locs 0 0 (MQ below (va_Qi (fun r I' => I' = I ∧ Q r) (wPo D cs b G) (fun q => b ≤ q)) args s 0 0 (fun q => b ≤ q)) (F0 m 20 ls [.int t0]) := by
  obtain ⟨hX, hr, hlk, hK, hE⟩ := id C0
  have hx := hX.1
  have hb := hX.2.1
  have hown := hX.2.2.2.1
  have hts := hX.2.2.2.2
  intro t0 H locs ls hq hH hl
  unfold v_X0_discAt_20 at hq
  exact w_eI hX hr hlk hH ⟨rfl, hq⟩ dX0_discAt_20
set_option maxRecDepth 100000 in
set_option maxHeartbeats 4000000 in
theorem s_X0_discAt_19 {k : Nat} {x1 : Int32} {I : wI} {Q : Int32 → Prop} (hs : wSh k = (0, 0)) (C0 : wCx p m c s args meth cX0_discAt 2 RX0 (some .int) D cs ad b) : ∀  (H : Heap) (locs : List Loc) (ls : Array Slot), v_X0_discAt_19 k x1 I Q  → wH D cs b G I s H locs → lv_has ls 2 [] → W p l e rm_X0_discAt s m args below meth c H locs 0 0 (MQ below (va_Qi (fun r I' => I' = I ∧ Q r) (wPo D cs b G) (fun q => b ≤ q)) args s 0 0 (fun q => b ≤ q)) (F0 m 19 ls []) := by
  obtain ⟨hX, hr, hlk, hK, hE⟩ := id C0
  have hx := hX.1
  have hb := hX.2.1
  have hown := hX.2.2.2.1
  have hts := hX.2.2.2.2
  intro  H locs ls hq hH hl
  unfold v_X0_discAt_19 at hq
  refine lv_iconst (v := -1) hx hb dX0_discAt_19 (by decide) ?_
  exact s_X0_discAt_20 hs C0  (-1 : Int32) _ _ _ hq hH (lv_sub hl [] rfl)
set_option maxRecDepth 100000 in
set_option maxHeartbeats 4000000 in
theorem c_X0_discAt {l : Launch} {D : va_G} {cs : wC4} {ad : Nat → Nat} {b : Nat} {G : wG} {k : Nat} (hs : wSh k = (0, 0)) (x1 : Int32) (I : wI) (hp : pre_X0_discAt k x1 I) : Met l yX0_discAt (ws_ yX0_discAt cX0_discAt 2 (some .int)) rm_X0_discAt (va_Pc [.ref (G.1 k), .int x1] (wPr D cs ad b G I)) (va_Qi (fun r I' => I' = I ∧ post_X0_discAt k x1 I r) (wPo D cs b G) (fun q => b ≤ q)) 0 0 (fun q => b ≤ q) := by
  have hq := vc_X0_discAt k x1 I hp
  refine w_met (by decide) (Nat.le_of_ble_eq_true rfl) ?_
  intro p e s m below meth c hX hr hlk hK hE hH ls hl
  have C0 : wCx p m c s _ meth cX0_discAt 2 RX0 (some .int) D cs ad b := ⟨hX, hr, hlk, hK, hE⟩
  have hX : CallFix p m c cX0_discAt 2 s _ lw_all RX0 := hX
  have hx := hX.1
  have hb := hX.2.1
  have hown := hX.2.2.2.1
  have hts := hX.2.2.2.2
  have hl : lv_has ls 2 [(0, .ref (G.1 k)), (1, .int x1)] := hl
  unfold v_X0_discAt at hq
  refine lv_iload_n hx hb dX0_discAt_0 rfl (lv_at hl 1 rfl) ?_
  refine lv_if_lt (tgt := 19) hx hb dX0_discAt_1 (by decide) (fun hc => ?_) (fun hc => ?_)
  · have hq := hq.1 hc
    exact s_X0_discAt_19 hs C0   _ _ _ hq hH (lv_sub hl [] rfl)
  · have hq := hq.2 hc
    refine lv_iload_n hx hb dX0_discAt_4 rfl (lv_at hl 1 rfl) ?_
    refine lv_bipush (v := 6) hx hb dX0_discAt_5 (by decide) ?_
    refine lv_icmp_ge (tgt := 19) hx hb dX0_discAt_7 (by decide) (fun hc => ?_) (fun hc => ?_)
    · have hq := hq.1 hc
      exact s_X0_discAt_19 hs C0   _ _ _ hq hH (lv_sub hl [] rfl)
    · have hq := hq.2 hc
      refine lv_aload_n hx hb dX0_discAt_10 rfl (lv_at hl 0 rfl) ?_
      refine w_getr hX hK hH ck0 hs 0 1 (k + 1) fr0_0 rfl q1_35 dX0_discAt_11 ?_
      refine lv_iload_n hx hb dX0_discAt_14 rfl (lv_at hl 1 rfl) ?_
      obtain ⟨hc, hq⟩ := hq
      refine w_iald hX hK hH (sf0_0 hs) hc dX0_discAt_15 ?_
      refine lv_goto (tgt := 20) hx hb dX0_discAt_16 (by decide) ?_
      exact s_X0_discAt_20 hs C0  (I (k + 1) (x1).toNatClampNeg) _ _ _ hq hH (lv_sub hl [] rfl)
abbrev rm_X0_notchAt : Room := { frames := 0, cells := 0, slots := 0, locals := 0 }
theorem hd_X0_notchAt : yX0_notchAt.cls = RX0 ∧ yX0_notchAt.cls ≠ "java/lang/invoke/MethodHandle" ∧ yX0_notchAt.cls ≠ "java/lang/invoke/VarHandle" ∧ (parseMethodDescriptor yX0_notchAt.desc).map (fun d => d.parameters.length) = some 1 := by decide +kernel
set_option maxRecDepth 100000 in
set_option maxHeartbeats 4000000 in
theorem s_X0_notchAt_20 {k : Nat} {x1 : Int32} {I : wI} {Q : Int32 → Prop} (hs : wSh k = (0, 0)) (C0 : wCx p m c s args meth cX0_notchAt 2 RX0 (some .int) D cs ad b) : ∀ (t0 : Int32) (H : Heap) (locs : List Loc) (ls : Array Slot), v_X0_notchAt_20 k x1 I Q t0 → wH D cs b G I s H locs → lv_has ls 2 [] → W p l e rm_X0_notchAt s m args below meth c H locs 0 0 (MQ below (va_Qi (fun r I' => I' = I ∧ Q r) (wPo D cs b G) (fun q => b ≤ q)) args s 0 0 (fun q => b ≤ q)) (F0 m 20 ls [.int t0]) := by
  obtain ⟨hX, hr, hlk, hK, hE⟩ := id C0
  have hx := hX.1
  have hb := hX.2.1
  have hown := hX.2.2.2.1
  have hts := hX.2.2.2.2
  intro t0 H locs ls hq hH hl
  unfold v_X0_notchAt_20 at hq
  exact w_eI hX hr hlk hH ⟨rfl, hq⟩ dX0_notchAt_20
set_option maxRecDepth 100000 in
set_option maxHeartbeats 4000000 in
theorem s_X0_notchAt_19 {k : Nat} {x1 : Int32} {I : wI} {Q : Int32 → Prop} (hs : wSh k = (0, 0)) (C0 : wCx p m c s args meth cX0_notchAt 2 RX0 (some .int) D cs ad b) : ∀  (H : Heap) (locs : List Loc) (ls : Array Slot), v_X0_notchAt_19 k x1 I Q  → wH D cs b G I s H locs → lv_has ls 2 [] → W p l e rm_X0_notchAt s m args below meth c H locs 0 0 (MQ below (va_Qi (fun r I' => I' = I ∧ Q r) (wPo D cs b G) (fun q => b ≤ q)) args s 0 0 (fun q => b ≤ q)) (F0 m 19 ls []) := by
  obtain ⟨hX, hr, hlk, hK, hE⟩ := id C0
  have hx := hX.1
  have hb := hX.2.1
  have hown := hX.2.2.2.1
  have hts := hX.2.2.2.2
  intro  H locs ls hq hH hl
  unfold v_X0_notchAt_19 at hq
  refine lv_iconst (v := 0) hx hb dX0_notchAt_19 (by decide) ?_
  exact s_X0_notchAt_20 hs C0  (0 : Int32) _ _ _ hq hH (lv_sub hl [] rfl)
set_option maxRecDepth 100000 in
set_option maxHeartbeats 4000000 in
theorem c_X0_notchAt {l : Launch} {D : va_G} {cs : wC4} {ad : Nat → Nat} {b : Nat} {G : wG} {k : Nat} (hs : wSh k = (0, 0)) (x1 : Int32) (I : wI) (hp : pre_X0_notchAt k x1 I) : Met l yX0_notchAt (ws_ yX0_notchAt cX0_notchAt 2 (some .int)) rm_X0_notchAt (va_Pc [.ref (G.1 k), .int x1] (wPr D cs ad b G I)) (va_Qi (fun r I' => I' = I ∧ post_X0_notchAt k x1 I r) (wPo D cs b G) (fun q => b ≤ q)) 0 0 (fun q => b ≤ q) := by
  have hq := vc_X0_notchAt k x1 I hp
  refine w_met (by decide) (Nat.le_of_ble_eq_true rfl) ?_
  intro p e s m below meth c hX hr hlk hK hE hH ls hl
  have C0 : wCx p m c s _ meth cX0_notchAt 2 RX0 (some .int) D cs ad b := ⟨hX, hr, hlk, hK, hE⟩
  have hX : CallFix p m c cX0_notchAt 2 s _ lw_all RX0 := hX
  have hx := hX.1
  have hb := hX.2.1
  have hown := hX.2.2.2.1
  have hts := hX.2.2.2.2
  have hl : lv_has ls 2 [(0, .ref (G.1 k)), (1, .int x1)] := hl
  unfold v_X0_notchAt at hq
  refine lv_iload_n hx hb dX0_notchAt_0 rfl (lv_at hl 1 rfl) ?_
  refine lv_if_lt (tgt := 19) hx hb dX0_notchAt_1 (by decide) (fun hc => ?_) (fun hc => ?_)
  · have hq := hq.1 hc
    exact s_X0_notchAt_19 hs C0   _ _ _ hq hH (lv_sub hl [] rfl)
  · have hq := hq.2 hc
    refine lv_iload_n hx hb dX0_notchAt_4 rfl (lv_at hl 1 rfl) ?_
    refine lv_bipush (v := 6) hx hb dX0_notchAt_5 (by decide) ?_
    refine lv_icmp_ge (tgt := 19) hx hb dX0_notchAt_7 (by decide) (fun hc => ?_) (fun hc => ?_)
    · have hq := hq.1 hc
      exact s_X0_notchAt_19 hs C0   _ _ _ hq hH (lv_sub hl [] rfl)
    · have hq := hq.2 hc
      refine lv_aload_n hx hb dX0_notchAt_10 rfl (lv_at hl 0 rfl) ?_
      refine w_getr hX hK hH ck0 hs 1 2 (k + 2) fr0_1 rfl q1_36 dX0_notchAt_11 ?_
      refine lv_iload_n hx hb dX0_notchAt_14 rfl (lv_at hl 1 rfl) ?_
      obtain ⟨hc, hq⟩ := hq
      refine w_iald hX hK hH (sf0_1 hs) hc dX0_notchAt_15 ?_
      refine lv_goto (tgt := 20) hx hb dX0_notchAt_16 (by decide) ?_
      exact s_X0_notchAt_20 hs C0  (I (k + 2) (x1).toNatClampNeg) _ _ _ hq hH (lv_sub hl [] rfl)
abbrev rm_X0_agreesAt : Room := { frames := 1, cells := 0, slots := 0, locals := 21 }
theorem hd_X0_agreesAt : yX0_agreesAt.cls = RX0 ∧ yX0_agreesAt.cls ≠ "java/lang/invoke/MethodHandle" ∧ yX0_agreesAt.cls ≠ "java/lang/invoke/VarHandle" ∧ (parseMethodDescriptor yX0_agreesAt.desc).map (fun d => d.parameters.length) = some 2 := by decide +kernel
set_option maxRecDepth 100000 in
set_option maxHeartbeats 4000000 in
theorem s_X0_agreesAt_31 {k : Nat} {k1 : Nat} {x2 : Int32} {I : wI} {Q : Int32 → Prop} (hs : wSh k = (0, 0)) (hs1 : wSh k1 = (0, 0)) (C0 : wCx p m c s args meth cX0_agreesAt 3 RX0 (some .boolean) D cs ad b) : ∀ (t0 : Int32) (H : Heap) (locs : List Loc) (ls : Array Slot), v_X0_agreesAt_31 k k1 x2 I Q t0 → wH D cs b G I s H locs → lv_has ls 3 [] → W p l e rm_X0_agreesAt s m args below meth c H locs 0 0 (MQ below (va_Qi (fun r I' => I' = I ∧ Q r) (wPo D cs b G) (fun q => b ≤ q)) args s 0 0 (fun q => b ≤ q)) (F0 m 31 ls [.int t0]) := by
  obtain ⟨hX, hr, hlk, hK, hE⟩ := id C0
  have hx := hX.1
  have hb := hX.2.1
  have hown := hX.2.2.2.1
  have hts := hX.2.2.2.2
  intro t0 H locs ls hq hH hl
  unfold v_X0_agreesAt_31 at hq
  obtain ⟨hz, hq⟩ := hq
  exact w_eZ hz hX hr hlk hH ⟨rfl, hq⟩ dX0_agreesAt_31
set_option maxRecDepth 100000 in
set_option maxHeartbeats 4000000 in
theorem s_X0_agreesAt_30 {k : Nat} {k1 : Nat} {x2 : Int32} {I : wI} {Q : Int32 → Prop} (hs : wSh k = (0, 0)) (hs1 : wSh k1 = (0, 0)) (C0 : wCx p m c s args meth cX0_agreesAt 3 RX0 (some .boolean) D cs ad b) : ∀  (H : Heap) (locs : List Loc) (ls : Array Slot), v_X0_agreesAt_30 k k1 x2 I Q  → wH D cs b G I s H locs → lv_has ls 3 [] → W p l e rm_X0_agreesAt s m args below meth c H locs 0 0 (MQ below (va_Qi (fun r I' => I' = I ∧ Q r) (wPo D cs b G) (fun q => b ≤ q)) args s 0 0 (fun q => b ≤ q)) (F0 m 30 ls []) := by
  obtain ⟨hX, hr, hlk, hK, hE⟩ := id C0
  have hx := hX.1
  have hb := hX.2.1
  have hown := hX.2.2.2.1
  have hts := hX.2.2.2.2
  intro  H locs ls hq hH hl
  unfold v_X0_agreesAt_30 at hq
  refine lv_iconst (v := 0) hx hb dX0_agreesAt_30 (by decide) ?_
  exact s_X0_agreesAt_31 hs hs1 C0  (0 : Int32) _ _ _ hq hH (lv_sub hl [] rfl)
set_option maxRecDepth 100000 in
set_option maxHeartbeats 4000000 in
theorem c_X0_agreesAt {l : Launch} {D : va_G} {cs : wC4} {ad : Nat → Nat} {b : Nat} {G : wG} {k : Nat} {k1 : Nat} (hs : wSh k = (0, 0)) (hs1 : wSh k1 = (0, 0)) (x2 : Int32) (I : wI) (hp : pre_X0_agreesAt k k1 x2 I) : Met l yX0_agreesAt (ws_ yX0_agreesAt cX0_agreesAt 3 (some .boolean)) rm_X0_agreesAt (va_Pc [.ref (G.1 k), .ref (G.1 k1), .int x2] (wPr D cs ad b G I)) (va_Qi (fun r I' => I' = I ∧ post_X0_agreesAt k k1 x2 I r) (wPo D cs b G) (fun q => b ≤ q)) 0 0 (fun q => b ≤ q) := by
  have hq := vc_X0_agreesAt k k1 x2 I hp
  refine w_met (by decide) (Nat.le_of_ble_eq_true rfl) ?_
  intro p e s m below meth c hX hr hlk hK hE hH ls hl
  have C0 : wCx p m c s _ meth cX0_agreesAt 3 RX0 (some .boolean) D cs ad b := ⟨hX, hr, hlk, hK, hE⟩
  have hX : CallFix p m c cX0_agreesAt 3 s _ lw_all RX0 := hX
  have hx := hX.1
  have hb := hX.2.1
  have hown := hX.2.2.2.1
  have hts := hX.2.2.2.2
  have hl : lv_has ls 3 [(0, .ref (G.1 k)), (1, .ref (G.1 k1)), (2, .int x2)] := hl
  unfold v_X0_agreesAt at hq
  refine lv_aload_n hx hb dX0_agreesAt_0 rfl (lv_at hl 0 rfl) ?_
  refine lv_iload_n hx hb dX0_agreesAt_1 rfl (lv_at hl 2 rfl) ?_
  obtain ⟨hp, hq⟩ := hq
  refine w_cIp hH (w_rV (As := [.int x2]) (rest := []) hX hK hE hH (c_X0_discAt hs _ _ hp) ck0 hs q2_112 q2_101 q2_102 q1_3 q2_103 hd_X0_discAt ⟨Nat.le_of_ble_eq_true rfl, Nat.le_of_ble_eq_true rfl⟩ ⟨rfl, rfl⟩ rfl hl.1 rfl (Nat.le_of_ble_eq_true rfl) dX0_agreesAt_2 ⟨Nat.zero_le _, Nat.zero_le _⟩) (fun r1  H locs hpo hH => ?_)
  have hq := hq r1  hpo
  refine lv_aload_n hx hb dX0_agreesAt_5 rfl (lv_at hl 1 rfl) ?_
  refine lv_iload_n hx hb dX0_agreesAt_6 rfl (lv_at hl 2 rfl) ?_
  obtain ⟨hp, hq⟩ := hq
  refine w_cIp hH (w_rV (As := [.int x2]) (rest := [.int r1]) hX hK hE hH (c_X0_discAt hs1 _ _ hp) ck0 hs1 q2_112 q2_101 q2_102 q1_3 q2_103 hd_X0_discAt ⟨Nat.le_of_ble_eq_true rfl, Nat.le_of_ble_eq_true rfl⟩ ⟨rfl, rfl⟩ rfl hl.1 rfl (Nat.le_of_ble_eq_true rfl) dX0_agreesAt_7 ⟨Nat.zero_le _, Nat.zero_le _⟩) (fun r2  H locs hpo hH => ?_)
  have hq := hq r2  hpo
  refine lv_icmp_ne (tgt := 30) hx hb dX0_agreesAt_10 (by decide) (fun hc => ?_) (fun hc => ?_)
  · have hq := hq.1 hc
    exact s_X0_agreesAt_30 hs hs1 C0   _ _ _ hq hH (lv_sub hl [] rfl)
  · have hq := hq.2 hc
    refine lv_aload_n hx hb dX0_agreesAt_13 rfl (lv_at hl 0 rfl) ?_
    refine lv_iload_n hx hb dX0_agreesAt_14 rfl (lv_at hl 2 rfl) ?_
    obtain ⟨hp, hq⟩ := hq
    refine w_cIp hH (w_rV (As := [.int x2]) (rest := []) hX hK hE hH (c_X0_notchAt hs _ _ hp) ck0 hs q2_113 q2_105 q2_106 q1_3 q2_107 hd_X0_notchAt ⟨Nat.le_of_ble_eq_true rfl, Nat.le_of_ble_eq_true rfl⟩ ⟨rfl, rfl⟩ rfl hl.1 rfl (Nat.le_of_ble_eq_true rfl) dX0_agreesAt_15 ⟨Nat.zero_le _, Nat.zero_le _⟩) (fun r3  H locs hpo hH => ?_)
    have hq := hq r3  hpo
    refine lv_aload_n hx hb dX0_agreesAt_18 rfl (lv_at hl 1 rfl) ?_
    refine lv_iload_n hx hb dX0_agreesAt_19 rfl (lv_at hl 2 rfl) ?_
    obtain ⟨hp, hq⟩ := hq
    refine w_cIp hH (w_rV (As := [.int x2]) (rest := [.int r3]) hX hK hE hH (c_X0_notchAt hs1 _ _ hp) ck0 hs1 q2_113 q2_105 q2_106 q1_3 q2_107 hd_X0_notchAt ⟨Nat.le_of_ble_eq_true rfl, Nat.le_of_ble_eq_true rfl⟩ ⟨rfl, rfl⟩ rfl hl.1 rfl (Nat.le_of_ble_eq_true rfl) dX0_agreesAt_20 ⟨Nat.zero_le _, Nat.zero_le _⟩) (fun r4  H locs hpo hH => ?_)
    have hq := hq r4  hpo
    refine lv_icmp_ne (tgt := 30) hx hb dX0_agreesAt_23 (by decide) (fun hc => ?_) (fun hc => ?_)
    · have hq := hq.1 hc
      exact s_X0_agreesAt_30 hs hs1 C0   _ _ _ hq hH (lv_sub hl [] rfl)
    · have hq := hq.2 hc
      refine lv_iconst (v := 1) hx hb dX0_agreesAt_26 (by decide) ?_
      refine lv_goto (tgt := 31) hx hb dX0_agreesAt_27 (by decide) ?_
      exact s_X0_agreesAt_31 hs hs1 C0  (1 : Int32) _ _ _ hq hH (lv_sub hl [] rfl)
abbrev rm_X1_keysAt : Room := { frames := 0, cells := 0, slots := 0, locals := 0 }
theorem hd_X1_keysAt : yX1_keysAt.cls = RX1 ∧ yX1_keysAt.cls ≠ "java/lang/invoke/MethodHandle" ∧ yX1_keysAt.cls ≠ "java/lang/invoke/VarHandle" ∧ (parseMethodDescriptor yX1_keysAt.desc).map (fun d => d.parameters.length) = some 1 := by decide +kernel
set_option maxRecDepth 100000 in
set_option maxHeartbeats 4000000 in
theorem s_X1_keysAt_29 {k : Nat} {x1 : Int32} {I : wI} {Q : Int32 → Prop} {K4 : Int32 → Int32 → Prop} (hs : wSh k = (0, 1)) (C0 : wCx p m c s args meth cX1_keysAt 4 RX1 (some .int) D cs ad b) (hK4 : ∀ (v2 : Int32) (v3 : Int32) (H : Heap) (locs : List Loc) (ls : Array Slot), K4 v2 v3 → wH D cs b G I s H locs → lv_has ls 4 [(0, .ref (G.1 k)), (1, .int x1), (2, .int v2), (3, .int v3)] → W p l e rm_X1_keysAt s m args below meth c H locs 0 0 (MQ below (va_Qi (fun r I' => I' = I ∧ Q r) (wPo D cs b G) (fun q => b ≤ q)) args s 0 0 (fun q => b ≤ q)) (F0 m 4 ls [])) : ∀ (v2 : Int32) (v3 : Int32) (H : Heap) (locs : List Loc) (ls : Array Slot), v_X1_keysAt_29 k x1 I Q K4 v2 v3 → wH D cs b G I s H locs → lv_has ls 4 [(0, .ref (G.1 k)), (1, .int x1), (2, .int v2), (3, .int v3)] → W p l e rm_X1_keysAt s m args below meth c H locs 0 0 (MQ below (va_Qi (fun r I' => I' = I ∧ Q r) (wPo D cs b G) (fun q => b ≤ q)) args s 0 0 (fun q => b ≤ q)) (F0 m 29 ls []) := by
  obtain ⟨hX, hr, hlk, hK, hE⟩ := id C0
  have hx := hX.1
  have hb := hX.2.1
  have hown := hX.2.2.2.1
  have hts := hX.2.2.2.2
  intro v2 v3 H locs ls hq hH hl
  unfold v_X1_keysAt_29 at hq
  refine lv_iinc (v := (v3 + (1 : Int32))) (lv' := [(3, .int (v3 + (1 : Int32))), (0, .ref (G.1 k)), (1, .int x1), (2, .int v2)]) hx hb dX1_keysAt_29 hl (k := 3) rfl rfl (by decide) rfl (fun ls hl => ?_)
  refine lv_goto (tgt := 4) hx hb dX1_keysAt_32 (by decide) ?_
  exact hK4 v2 (v3 + (1 : Int32)) _ _ _ hq hH (lv_sub hl [1, 2, 3, 0] rfl)
set_option maxRecDepth 100000 in
set_option maxHeartbeats 4000000 in
theorem s_X1_keysAt_4 {k : Nat} {x1 : Int32} {I : wI} {Q : Int32 → Prop} (hs : wSh k = (0, 1)) (C0 : wCx p m c s args meth cX1_keysAt 4 RX1 (some .int) D cs ad b) : ∀ (f : Nat) (v2 : Int32) (v3 : Int32) (H : Heap) (locs : List Loc) (ls : Array Slot), v_X1_keysAt_4 k x1 I Q f v2 v3 → wH D cs b G I s H locs → lv_has ls 4 [(0, .ref (G.1 k)), (1, .int x1), (2, .int v2), (3, .int v3)] → W p l e rm_X1_keysAt s m args below meth c H locs 0 0 (MQ below (va_Qi (fun r I' => I' = I ∧ Q r) (wPo D cs b G) (fun q => b ≤ q)) args s 0 0 (fun q => b ≤ q)) (F0 m 4 ls []) := by
  obtain ⟨hX, hr, hlk, hK, hE⟩ := id C0
  have hx := hX.1
  have hb := hX.2.1
  have hown := hX.2.2.2.1
  have hts := hX.2.2.2.2
  intro f
  induction f with
  | zero =>
    intro v2 v3 H locs ls hq
    exact hq.elim
  | succ f hK4 =>
    intro v2 v3 H locs ls hq hH hl
    have hq : g_X1_keysAt_4 k x1 I Q (v_X1_keysAt_4 k x1 I Q f) v2 v3 := hq
    unfold g_X1_keysAt_4 at hq
    refine lv_iload_n hx hb dX1_keysAt_4 rfl (lv_at hl 3 rfl) ?_
    refine lv_iconst (v := 5) hx hb dX1_keysAt_5 (by decide) ?_
    refine lv_icmp_ge (tgt := 35) hx hb dX1_keysAt_6 (by decide) (fun hc => ?_) (fun hc => ?_)
    · have hq := hq.1 hc
      refine lv_iload_n hx hb dX1_keysAt_35 rfl (lv_at hl 2 rfl) ?_
      exact w_eI hX hr hlk hH ⟨rfl, hq⟩ dX1_keysAt_36
    · have hq := hq.2 hc
      refine lv_aload_n hx hb dX1_keysAt_9 rfl (lv_at hl 0 rfl) ?_
      refine w_getr hX hK hH ck1 hs 0 1 (k + 1) fr1_0 rfl q1_49 dX1_keysAt_10 ?_
      refine lv_iload_n hx hb dX1_keysAt_13 rfl (lv_at hl 3 rfl) ?_
      obtain ⟨hc, hq⟩ := hq
      refine w_iald hX hK hH (sf1_0 hs) hc dX1_keysAt_14 ?_
      refine lv_iload_n hx hb dX1_keysAt_15 rfl (lv_at hl 1 rfl) ?_
      refine lv_ishr hx hb dX1_keysAt_16 ?_
      refine lv_iconst (v := 1) hx hb dX1_keysAt_17 (by decide) ?_
      refine lv_iand hx hb dX1_keysAt_18 ?_
      refine lv_iconst (v := 1) hx hb dX1_keysAt_19 (by decide) ?_
      refine lv_icmp_ne (tgt := 29) hx hb dX1_keysAt_20 (by decide) (fun hc => ?_) (fun hc => ?_)
      · have hq := hq.1 hc
        exact s_X1_keysAt_29 hs C0 hK4 v2 v3 _ _ _ hq hH (lv_sub hl [0, 1, 2, 3] rfl)
      · have hq := hq.2 hc
        refine lv_iload_n hx hb dX1_keysAt_23 rfl (lv_at hl 2 rfl) ?_
        refine lv_iconst (v := 1) hx hb dX1_keysAt_24 (by decide) ?_
        refine lv_iload_n hx hb dX1_keysAt_25 rfl (lv_at hl 3 rfl) ?_
        refine lv_ishl hx hb dX1_keysAt_26 ?_
        refine lv_ior hx hb dX1_keysAt_27 ?_
        refine lv_istore_n (lv' := [(2, .int (v2 ||| ((1 : Int32) <<< (v3 &&& 31)))), (0, .ref (G.1 k)), (1, .int x1), (3, .int v3)]) hx hb dX1_keysAt_28 rfl hl (by decide) rfl (fun ls hl => ?_)
        exact s_X1_keysAt_29 hs C0 hK4 (v2 ||| ((1 : Int32) <<< (v3 &&& 31))) v3 _ _ _ hq hH (lv_sub hl [1, 2, 0, 3] rfl)
set_option maxRecDepth 100000 in
set_option maxHeartbeats 4000000 in
theorem c_X1_keysAt {l : Launch} {D : va_G} {cs : wC4} {ad : Nat → Nat} {b : Nat} {G : wG} {k : Nat} (hs : wSh k = (0, 1)) (x1 : Int32) (I : wI) (hp : pre_X1_keysAt k x1 I) : Met l yX1_keysAt (ws_ yX1_keysAt cX1_keysAt 4 (some .int)) rm_X1_keysAt (va_Pc [.ref (G.1 k), .int x1] (wPr D cs ad b G I)) (va_Qi (fun r I' => I' = I ∧ post_X1_keysAt k x1 I r) (wPo D cs b G) (fun q => b ≤ q)) 0 0 (fun q => b ≤ q) := by
  have hq := vc_X1_keysAt k x1 I hp
  refine w_met (by decide) (Nat.le_of_ble_eq_true rfl) ?_
  intro p e s m below meth c hX hr hlk hK hE hH ls hl
  have C0 : wCx p m c s _ meth cX1_keysAt 4 RX1 (some .int) D cs ad b := ⟨hX, hr, hlk, hK, hE⟩
  have hX : CallFix p m c cX1_keysAt 4 s _ lw_all RX1 := hX
  have hx := hX.1
  have hb := hX.2.1
  have hown := hX.2.2.2.1
  have hts := hX.2.2.2.2
  have hl : lv_has ls 4 [(0, .ref (G.1 k)), (1, .int x1)] := hl
  unfold v_X1_keysAt at hq
  refine lv_iconst (v := 0) hx hb dX1_keysAt_0 (by decide) ?_
  refine lv_istore_n (lv' := [(2, .int (0 : Int32)), (0, .ref (G.1 k)), (1, .int x1)]) hx hb dX1_keysAt_1 rfl hl (by decide) rfl (fun ls hl => ?_)
  refine lv_iconst (v := 0) hx hb dX1_keysAt_2 (by decide) ?_
  refine lv_istore_n (lv' := [(3, .int (0 : Int32)), (2, .int (0 : Int32)), (0, .ref (G.1 k)), (1, .int x1)]) hx hb dX1_keysAt_3 rfl hl (by decide) rfl (fun ls hl => ?_)
  obtain ⟨f, hq⟩ := hq
  exact s_X1_keysAt_4 hs C0  f (0 : Int32) (0 : Int32) _ _ _ hq hH (lv_sub hl [2, 3, 1, 0] rfl)
abbrev rm_X5_at : Room := { frames := 9, cells := 0, slots := 0, locals := 140 }
theorem hd_X5_at : yX5_at.cls = RX5 ∧ yX5_at.cls ≠ "java/lang/invoke/MethodHandle" ∧ yX5_at.cls ≠ "java/lang/invoke/VarHandle" ∧ (parseMethodDescriptor yX5_at.desc).map (fun d => d.parameters.length) = some 2 := by decide +kernel
set_option maxRecDepth 100000 in
set_option maxHeartbeats 4000000 in
theorem s_X5_at_112 {x1 : Int32} {x2 : Int32} {I : wI} {Q : Int32 → Prop} (C0 : wCx p m c s args meth cX5_at 3 RX5 (some .int) D cs ad b) : ∀ (t0 : Int32) (H : Heap) (locs : List Loc) (ls : Array Slot), v_X5_at_112 x1 x2 I Q t0 → wH D cs b G I s H locs → lv_has ls 3 [] → W p l e rm_X5_at s m args below meth c H locs 0 0 (MQ below (va_Qi (fun r I' => I' = I ∧ Q r) (wPo D cs b G) (fun q => b ≤ q)) args s 0 0 (fun q => b ≤ q)) (F0 m 112 ls [.int t0]) := by
  obtain ⟨hX, hr, hlk, hK, hE⟩ := id C0
  have hx := hX.1
  have hb := hX.2.1
  have hown := hX.2.2.2.1
  have hts := hX.2.2.2.2
  intro t0 H locs ls hq hH hl
  unfold v_X5_at_112 at hq
  exact w_eI hX hr hlk hH ⟨rfl, hq⟩ dX5_at_112
set_option maxRecDepth 100000 in
set_option maxHeartbeats 4000000 in
theorem s_X5_at_111 {x1 : Int32} {x2 : Int32} {I : wI} {Q : Int32 → Prop} (C0 : wCx p m c s args meth cX5_at 3 RX5 (some .int) D cs ad b) : ∀  (H : Heap) (locs : List Loc) (ls : Array Slot), v_X5_at_111 x1 x2 I Q  → wH D cs b G I s H locs → lv_has ls 3 [] → W p l e rm_X5_at s m args below meth c H locs 0 0 (MQ below (va_Qi (fun r I' => I' = I ∧ Q r) (wPo D cs b G) (fun q => b ≤ q)) args s 0 0 (fun q => b ≤ q)) (F0 m 111 ls []) := by
  obtain ⟨hX, hr, hlk, hK, hE⟩ := id C0
  have hx := hX.1
  have hb := hX.2.1
  have hown := hX.2.2.2.1
  have hts := hX.2.2.2.2
  intro  H locs ls hq hH hl
  unfold v_X5_at_111 at hq
  refine lv_iconst (v := 0) hx hb dX5_at_111 (by decide) ?_
  exact s_X5_at_112  C0  (0 : Int32) _ _ _ hq hH (lv_sub hl [] rfl)
set_option maxRecDepth 100000 in
set_option maxHeartbeats 4000000 in
theorem c_X5_at {l : Launch} {D : va_G} {cs : wC4} {ad : Nat → Nat} {b : Nat} {G : wG} (x1 : Int32) (x2 : Int32) (I : wI) (hp : pre_X5_at x1 x2 I) : Met l yX5_at (ws_ yX5_at cX5_at 3 (some .int)) rm_X5_at (va_Pc [.ref (G.1 0), .int x1, .int x2] (wPr D cs ad b G I)) (va_Qi (fun r I' => I' = I ∧ post_X5_at x1 x2 I r) (wPo D cs b G) (fun q => b ≤ q)) 0 0 (fun q => b ≤ q) := by
  have hq := vc_X5_at x1 x2 I hp
  refine w_met (by decide) (Nat.le_of_ble_eq_true rfl) ?_
  intro p e s m below meth c hX hr hlk hK hE hH ls hl
  have C0 : wCx p m c s _ meth cX5_at 3 RX5 (some .int) D cs ad b := ⟨hX, hr, hlk, hK, hE⟩
  have hX : CallFix p m c cX5_at 3 s _ lw_all RX5 := hX
  have hx := hX.1
  have hb := hX.2.1
  have hown := hX.2.2.2.1
  have hts := hX.2.2.2.2
  have hl : lv_has ls 3 [(0, .ref (G.1 0)), (1, .int x1), (2, .int x2)] := hl
  unfold v_X5_at at hq
  refine lv_iload_n hx hb dX5_at_0 rfl (lv_at hl 1 rfl) ?_
  obtain ⟨hp, hq⟩ := hq
  refine w_cVp hH (w_rS (As := [.int x1]) (rest := []) hX hK hE hH (c_X5_requirePosition  _ _ hp) q2_81 q2_82 q1_1 q2_83 hd_X5_requirePosition.2 ⟨Nat.le_of_ble_eq_true rfl, Nat.le_of_ble_eq_true rfl⟩ ⟨rfl, rfl⟩ rfl hl.1 rfl (Nat.le_of_ble_eq_true rfl) dX5_at_1 ⟨Nat.zero_le _, Nat.zero_le _⟩) (fun   H locs hpo hH => ?_)
  have hq := hq   hpo
  refine lv_iload_n hx hb dX5_at_4 rfl (lv_at hl 2 rfl) ?_
  by_cases hc0 : x2 = (0 : Int32)
  · have hq := hq.1 hc0
    refine lv_tableIn (tgt := 40) hx hb dX5_at_5 (by rw [hc0]; decide) (by rw [hc0]; decide) (by rw [hc0]; rfl) (by decide) ?_
    refine lv_aload_n hx hb dX5_at_40 rfl (lv_at hl 0 rfl) ?_
    refine w_getr hX hK hH ck5 sh0 0 1 1 fr5_0 rfl q1_172 dX5_at_41 ?_
    refine w_getrN hX hK hE hH ck3 (sf5_0 sh0) 0 1 2 fr3_0 rfl qn1_58 dX5_at_44 ?_
    refine lv_iload_n hx hb dX5_at_47 rfl (lv_at hl 1 rfl) ?_
    obtain ⟨hp, hq⟩ := hq
    refine w_cIp hH (w_rV (As := [.int x1]) (rest := []) hX hK hE hH (c_X0_discAt (sf3_0 (sf5_0 sh0)) _ _ hp) ck0 (sf3_0 (sf5_0 sh0)) q2_100 q2_101 q2_102 q1_3 q2_103 hd_X0_discAt ⟨Nat.le_of_ble_eq_true rfl, Nat.le_of_ble_eq_true rfl⟩ ⟨rfl, rfl⟩ rfl hl.1 rfl (Nat.le_of_ble_eq_true rfl) dX5_at_48 ⟨Nat.zero_le _, Nat.zero_le _⟩) (fun r1  H locs hpo hH => ?_)
    have hq := hq r1  hpo
    exact w_eI hX hr hlk hH ⟨rfl, hq⟩ dX5_at_51
  by_cases hc1 : x2 = (1 : Int32)
  · have hq := hq.2.1 hc1
    refine lv_tableIn (tgt := 52) hx hb dX5_at_5 (by rw [hc1]; decide) (by rw [hc1]; decide) (by rw [hc1]; rfl) (by decide) ?_
    refine lv_aload_n hx hb dX5_at_52 rfl (lv_at hl 0 rfl) ?_
    refine w_getr hX hK hH ck5 sh0 0 1 1 fr5_0 rfl q1_172 dX5_at_53 ?_
    refine w_getrN hX hK hE hH ck3 (sf5_0 sh0) 0 1 2 fr3_0 rfl qn1_58 dX5_at_56 ?_
    refine lv_iload_n hx hb dX5_at_59 rfl (lv_at hl 1 rfl) ?_
    obtain ⟨hp, hq⟩ := hq
    refine w_cIp hH (w_rV (As := [.int x1]) (rest := []) hX hK hE hH (c_X0_notchAt (sf3_0 (sf5_0 sh0)) _ _ hp) ck0 (sf3_0 (sf5_0 sh0)) q2_104 q2_105 q2_106 q1_3 q2_107 hd_X0_notchAt ⟨Nat.le_of_ble_eq_true rfl, Nat.le_of_ble_eq_true rfl⟩ ⟨rfl, rfl⟩ rfl hl.1 rfl (Nat.le_of_ble_eq_true rfl) dX5_at_60 ⟨Nat.zero_le _, Nat.zero_le _⟩) (fun r2  H locs hpo hH => ?_)
    have hq := hq r2  hpo
    exact w_eI hX hr hlk hH ⟨rfl, hq⟩ dX5_at_63
  by_cases hc2 : x2 = (2 : Int32)
  · have hq := hq.2.2.1 hc2
    refine lv_tableIn (tgt := 64) hx hb dX5_at_5 (by rw [hc2]; decide) (by rw [hc2]; decide) (by rw [hc2]; rfl) (by decide) ?_
    refine lv_aload_n hx hb dX5_at_64 rfl (lv_at hl 0 rfl) ?_
    refine w_getr hX hK hH ck5 sh0 0 1 1 fr5_0 rfl q1_172 dX5_at_65 ?_
    refine w_getiN hX hK hE hH ck3 (sf5_0 sh0) 4 fi3_4 qn1_69 dX5_at_68 ?_
    refine lv_iload_n hx hb dX5_at_71 rfl (lv_at hl 1 rfl) ?_
    refine lv_ishr hx hb dX5_at_72 ?_
    refine lv_iconst (v := 1) hx hb dX5_at_73 (by decide) ?_
    refine lv_iand hx hb dX5_at_74 ?_
    exact w_eI hX hr hlk hH ⟨rfl, hq⟩ dX5_at_75
  by_cases hc3 : x2 = (3 : Int32)
  · have hq := hq.2.2.2.1 hc3
    refine lv_tableIn (tgt := 76) hx hb dX5_at_5 (by rw [hc3]; decide) (by rw [hc3]; decide) (by rw [hc3]; rfl) (by decide) ?_
    refine lv_aload_n hx hb dX5_at_76 rfl (lv_at hl 0 rfl) ?_
    refine w_getr hX hK hH ck5 sh0 0 1 1 fr5_0 rfl q1_172 dX5_at_77 ?_
    refine w_getiN hX hK hE hH ck3 (sf5_0 sh0) 3 fi3_3 qn1_67 dX5_at_80 ?_
    refine lv_if_eq (tgt := 111) hx hb dX5_at_83 (by decide) (fun hc => ?_) (fun hc => ?_)
    · have hq := hq.1 hc
      exact s_X5_at_111  C0   _ _ _ hq hH (lv_sub hl [] rfl)
    · have hq := hq.2 hc
      refine lv_aload_n hx hb dX5_at_86 rfl (lv_at hl 0 rfl) ?_
      refine w_getr hX hK hH ck5 sh0 0 1 1 fr5_0 rfl q1_172 dX5_at_87 ?_
      refine w_getrN hX hK hE hH ck3 (sf5_0 sh0) 0 1 2 fr3_0 rfl qn1_58 dX5_at_90 ?_
      refine lv_aload_n hx hb dX5_at_93 rfl (lv_at hl 0 rfl) ?_
      refine w_getr hX hK hH ck5 sh0 0 1 1 fr5_0 rfl q1_172 dX5_at_94 ?_
      refine w_getrN hX hK hE hH ck3 (sf5_0 sh0) 2 7 8 fr3_2 rfl qn1_64 dX5_at_97 ?_
      refine lv_iload_n hx hb dX5_at_100 rfl (lv_at hl 1 rfl) ?_
      obtain ⟨hp, hq⟩ := hq
      refine w_cIp hH (w_rV (As := [.ref (G.1 8), .int x1]) (rest := []) hX hK hE hH (c_X0_agreesAt (sf3_0 (sf5_0 sh0)) (sf3_2 (sf5_0 sh0)) _ _ hp) ck0 (sf3_0 (sf5_0 sh0)) q2_108 q2_109 q2_110 q1_3 q2_111 hd_X0_agreesAt ⟨Nat.le_of_ble_eq_true rfl, Nat.le_of_ble_eq_true rfl⟩ ⟨rfl, rfl⟩ rfl hl.1 rfl (Nat.le_of_ble_eq_true rfl) dX5_at_101 ⟨Nat.zero_le _, Nat.zero_le _⟩) (fun r3  H locs hpo hH => ?_)
      have hq := hq r3  hpo
      refine lv_if_eq (tgt := 111) hx hb dX5_at_104 (by decide) (fun hc => ?_) (fun hc => ?_)
      · have hq := hq.1 hc
        exact s_X5_at_111  C0   _ _ _ hq hH (lv_sub hl [] rfl)
      · have hq := hq.2 hc
        refine lv_iconst (v := 1) hx hb dX5_at_107 (by decide) ?_
        refine lv_goto (tgt := 112) hx hb dX5_at_108 (by decide) ?_
        exact s_X5_at_112  C0  (1 : Int32) _ _ _ hq hH (lv_sub hl [] rfl)
  by_cases hc4 : x2 = (4 : Int32)
  · have hq := hq.2.2.2.2.1 hc4
    refine lv_tableIn (tgt := 113) hx hb dX5_at_5 (by rw [hc4]; decide) (by rw [hc4]; decide) (by rw [hc4]; rfl) (by decide) ?_
    refine lv_aload_n hx hb dX5_at_113 rfl (lv_at hl 0 rfl) ?_
    refine w_getr hX hK hH ck5 sh0 0 1 1 fr5_0 rfl q1_172 dX5_at_114 ?_
    refine w_getrN hX hK hE hH ck3 (sf5_0 sh0) 1 4 5 fr3_1 rfl qn1_61 dX5_at_117 ?_
    refine lv_iload_n hx hb dX5_at_120 rfl (lv_at hl 1 rfl) ?_
    obtain ⟨hp, hq⟩ := hq
    refine w_cIp hH (w_rV (As := [.int x1]) (rest := []) hX hK hE hH (c_X1_keysAt (sf3_1 (sf5_0 sh0)) _ _ hp) ck1 (sf3_1 (sf5_0 sh0)) q2_114 q2_115 q2_116 q1_4 q2_117 hd_X1_keysAt ⟨Nat.le_of_ble_eq_true rfl, Nat.le_of_ble_eq_true rfl⟩ ⟨rfl, rfl⟩ rfl hl.1 rfl (Nat.le_of_ble_eq_true rfl) dX5_at_121 ⟨Nat.zero_le _, Nat.zero_le _⟩) (fun r4  H locs hpo hH => ?_)
    have hq := hq r4  hpo
    exact w_eI hX hr hlk hH ⟨rfl, hq⟩ dX5_at_124
  have hq := hq.2.2.2.2.2 ⟨hc0, hc1, hc2, hc3, hc4⟩
  have he0 := w_toInt_ne hc0
  have he1 := w_toInt_ne hc1
  have he2 := w_toInt_ne hc2
  have he3 := w_toInt_ne hc3
  have he4 := w_toInt_ne hc4
  refine lv_tableOut (tgt := 125) hx hb dX5_at_5 (w_swOut0_4 hc0 hc1 hc2 hc3 hc4) (by decide) ?_
  exact hq.elim
abbrev rm_X5_atx : Room := { frames := 9, cells := 1, slots := 6, locals := 140 }

set_option maxRecDepth 100000 in
set_option maxHeartbeats 4000000 in
theorem s_X5_atx_112 {x1 : Int32} {x2 : Int32} {I : wI} {X : String → Prop} (hst : l.stackTraces = false) (hEx : ∀ x ∈ c.exceptionTable.toList, False) (C0 : wCx p m c s args meth cX5_at 3 RX5 (some .int) D cs ad b) : ∀ (t0 : Int32) (H : Heap) (locs : List Loc) (ls : Array Slot), v_X5_atx_112 x1 x2 I X t0 → wH D cs b G I s H locs → lv_has ls 3 [] → W p l e rm_X5_atx s m args below meth c H locs 0 0 (vx_MQ below (va_Qi (fun (_ : Int32) (_ : wI) => False) (wPo D cs b G) (fun q => b ≤ q)) (wXC D cs b G (fun E I' => I' = I ∧ X E)) args s 1 6 (fun q => b ≤ q)) (F0 m 112 ls [.int t0]) := by
  obtain ⟨hX, hr, hlk, hK, hE⟩ := id C0
  have hx := hX.1
  have hb := hX.2.1
  have hown := hX.2.2.2.1
  have hts := hX.2.2.2.2
  intro t0 H locs ls hq hH hl
  unfold v_X5_atx_112 at hq
  exact hq.elim
set_option maxRecDepth 100000 in
set_option maxHeartbeats 4000000 in
theorem s_X5_atx_111 {x1 : Int32} {x2 : Int32} {I : wI} {X : String → Prop} (hst : l.stackTraces = false) (hEx : ∀ x ∈ c.exceptionTable.toList, False) (C0 : wCx p m c s args meth cX5_at 3 RX5 (some .int) D cs ad b) : ∀  (H : Heap) (locs : List Loc) (ls : Array Slot), v_X5_atx_111 x1 x2 I X  → wH D cs b G I s H locs → lv_has ls 3 [] → W p l e rm_X5_atx s m args below meth c H locs 0 0 (vx_MQ below (va_Qi (fun (_ : Int32) (_ : wI) => False) (wPo D cs b G) (fun q => b ≤ q)) (wXC D cs b G (fun E I' => I' = I ∧ X E)) args s 1 6 (fun q => b ≤ q)) (F0 m 111 ls []) := by
  obtain ⟨hX, hr, hlk, hK, hE⟩ := id C0
  have hx := hX.1
  have hb := hX.2.1
  have hown := hX.2.2.2.1
  have hts := hX.2.2.2.2
  intro  H locs ls hq hH hl
  unfold v_X5_atx_111 at hq
  refine lv_iconst (v := 0) hx hb dX5_at_111 (by decide) ?_
  exact s_X5_atx_112 hst hEx C0  (0 : Int32) _ _ _ hq hH (lv_sub hl [] rfl)
set_option maxRecDepth 100000 in
set_option maxHeartbeats 4000000 in
theorem c_X5_atx {l : Launch} {D : va_G} {cs : wC4} {ad : Nat → Nat} {b : Nat} {G : wG} (hst : l.stackTraces = false) (x1 : Int32) (x2 : Int32) (I : wI) (hp : pre_X5_atx x1 x2 I) : vx_Met l yX5_at (ws_ yX5_at cX5_at 3 (some .int)) rm_X5_atx (va_Pc [.ref (G.1 0), .int x1, .int x2] (wPr D cs ad b G I)) (va_Qi (fun (_ : Int32) (_ : wI) => False) (wPo D cs b G) (fun q => b ≤ q)) (wXC D cs b G (fun E I' => I' = I ∧ exc_X5_at x1 x2 I E)) 1 6 (fun q => b ≤ q) := by
  have hq := vc_X5_atx x1 x2 I hp
  refine w_metx (by decide) (Nat.le_of_ble_eq_true rfl) ?_
  intro p e s m below meth c hX hr hlk hEx hK hE hH ls hl
  have C0 : wCx p m c s _ meth cX5_at 3 RX5 (some .int) D cs ad b := ⟨hX, hr, hlk, hK, hE⟩
  have hX : CallFix p m c cX5_at 3 s _ lw_all RX5 := hX
  have hx := hX.1
  have hb := hX.2.1
  have hown := hX.2.2.2.1
  have hts := hX.2.2.2.2
  have hl : lv_has ls 3 [(0, .ref (G.1 0)), (1, .int x1), (2, .int x2)] := hl
  unfold v_X5_atx at hq
  refine lv_iload_n hx hb dX5_at_0 rfl (lv_at hl 1 rfl) ?_
  by_cases hok : ok_X5_requirePosition x1 I
  · have hq := hq.1 hok
    obtain ⟨hp, hq⟩ := hq
    refine w_cVp hH (w_rS (As := [.int x1]) (rest := []) hX hK hE hH (c_X5_requirePosition  _ _ hp) q2_81 q2_82 q1_1 q2_83 hd_X5_requirePosition.2 ⟨Nat.le_of_ble_eq_true rfl, Nat.le_of_ble_eq_true rfl⟩ ⟨rfl, rfl⟩ rfl hl.1 rfl (Nat.le_of_ble_eq_true rfl) dX5_at_1 ⟨Nat.zero_le _, Nat.zero_le _⟩) (fun   H locs hpo hH => ?_)
    have hq := hq   hpo
    refine lv_iload_n hx hb dX5_at_4 rfl (lv_at hl 2 rfl) ?_
    by_cases hc0 : x2 = (0 : Int32)
    · have hq := hq.1 hc0
      refine lv_tableIn (tgt := 40) hx hb dX5_at_5 (by rw [hc0]; decide) (by rw [hc0]; decide) (by rw [hc0]; rfl) (by decide) ?_
      refine lv_aload_n hx hb dX5_at_40 rfl (lv_at hl 0 rfl) ?_
      refine w_getr hX hK hH ck5 sh0 0 1 1 fr5_0 rfl q1_172 dX5_at_41 ?_
      refine w_getrN hX hK hE hH ck3 (sf5_0 sh0) 0 1 2 fr3_0 rfl qn1_58 dX5_at_44 ?_
      refine lv_iload_n hx hb dX5_at_47 rfl (lv_at hl 1 rfl) ?_
      obtain ⟨hp, hq⟩ := hq
      refine w_cIp hH (w_rV (As := [.int x1]) (rest := []) hX hK hE hH (c_X0_discAt (sf3_0 (sf5_0 sh0)) _ _ hp) ck0 (sf3_0 (sf5_0 sh0)) q2_100 q2_101 q2_102 q1_3 q2_103 hd_X0_discAt ⟨Nat.le_of_ble_eq_true rfl, Nat.le_of_ble_eq_true rfl⟩ ⟨rfl, rfl⟩ rfl hl.1 rfl (Nat.le_of_ble_eq_true rfl) dX5_at_48 ⟨Nat.zero_le _, Nat.zero_le _⟩) (fun r1  H locs hpo hH => ?_)
      have hq := hq r1  hpo
      exact hq.elim
    by_cases hc1 : x2 = (1 : Int32)
    · have hq := hq.2.1 hc1
      refine lv_tableIn (tgt := 52) hx hb dX5_at_5 (by rw [hc1]; decide) (by rw [hc1]; decide) (by rw [hc1]; rfl) (by decide) ?_
      refine lv_aload_n hx hb dX5_at_52 rfl (lv_at hl 0 rfl) ?_
      refine w_getr hX hK hH ck5 sh0 0 1 1 fr5_0 rfl q1_172 dX5_at_53 ?_
      refine w_getrN hX hK hE hH ck3 (sf5_0 sh0) 0 1 2 fr3_0 rfl qn1_58 dX5_at_56 ?_
      refine lv_iload_n hx hb dX5_at_59 rfl (lv_at hl 1 rfl) ?_
      obtain ⟨hp, hq⟩ := hq
      refine w_cIp hH (w_rV (As := [.int x1]) (rest := []) hX hK hE hH (c_X0_notchAt (sf3_0 (sf5_0 sh0)) _ _ hp) ck0 (sf3_0 (sf5_0 sh0)) q2_104 q2_105 q2_106 q1_3 q2_107 hd_X0_notchAt ⟨Nat.le_of_ble_eq_true rfl, Nat.le_of_ble_eq_true rfl⟩ ⟨rfl, rfl⟩ rfl hl.1 rfl (Nat.le_of_ble_eq_true rfl) dX5_at_60 ⟨Nat.zero_le _, Nat.zero_le _⟩) (fun r2  H locs hpo hH => ?_)
      have hq := hq r2  hpo
      exact hq.elim
    by_cases hc2 : x2 = (2 : Int32)
    · have hq := hq.2.2.1 hc2
      refine lv_tableIn (tgt := 64) hx hb dX5_at_5 (by rw [hc2]; decide) (by rw [hc2]; decide) (by rw [hc2]; rfl) (by decide) ?_
      refine lv_aload_n hx hb dX5_at_64 rfl (lv_at hl 0 rfl) ?_
      refine w_getr hX hK hH ck5 sh0 0 1 1 fr5_0 rfl q1_172 dX5_at_65 ?_
      refine w_getiN hX hK hE hH ck3 (sf5_0 sh0) 4 fi3_4 qn1_69 dX5_at_68 ?_
      refine lv_iload_n hx hb dX5_at_71 rfl (lv_at hl 1 rfl) ?_
      refine lv_ishr hx hb dX5_at_72 ?_
      refine lv_iconst (v := 1) hx hb dX5_at_73 (by decide) ?_
      refine lv_iand hx hb dX5_at_74 ?_
      exact hq.elim
    by_cases hc3 : x2 = (3 : Int32)
    · have hq := hq.2.2.2.1 hc3
      refine lv_tableIn (tgt := 76) hx hb dX5_at_5 (by rw [hc3]; decide) (by rw [hc3]; decide) (by rw [hc3]; rfl) (by decide) ?_
      refine lv_aload_n hx hb dX5_at_76 rfl (lv_at hl 0 rfl) ?_
      refine w_getr hX hK hH ck5 sh0 0 1 1 fr5_0 rfl q1_172 dX5_at_77 ?_
      refine w_getiN hX hK hE hH ck3 (sf5_0 sh0) 3 fi3_3 qn1_67 dX5_at_80 ?_
      refine lv_if_eq (tgt := 111) hx hb dX5_at_83 (by decide) (fun hc => ?_) (fun hc => ?_)
      · have hq := hq.1 hc
        exact s_X5_atx_111 hst hEx C0   _ _ _ hq hH (lv_sub hl [] rfl)
      · have hq := hq.2 hc
        refine lv_aload_n hx hb dX5_at_86 rfl (lv_at hl 0 rfl) ?_
        refine w_getr hX hK hH ck5 sh0 0 1 1 fr5_0 rfl q1_172 dX5_at_87 ?_
        refine w_getrN hX hK hE hH ck3 (sf5_0 sh0) 0 1 2 fr3_0 rfl qn1_58 dX5_at_90 ?_
        refine lv_aload_n hx hb dX5_at_93 rfl (lv_at hl 0 rfl) ?_
        refine w_getr hX hK hH ck5 sh0 0 1 1 fr5_0 rfl q1_172 dX5_at_94 ?_
        refine w_getrN hX hK hE hH ck3 (sf5_0 sh0) 2 7 8 fr3_2 rfl qn1_64 dX5_at_97 ?_
        refine lv_iload_n hx hb dX5_at_100 rfl (lv_at hl 1 rfl) ?_
        obtain ⟨hp, hq⟩ := hq
        refine w_cIp hH (w_rV (As := [.ref (G.1 8), .int x1]) (rest := []) hX hK hE hH (c_X0_agreesAt (sf3_0 (sf5_0 sh0)) (sf3_2 (sf5_0 sh0)) _ _ hp) ck0 (sf3_0 (sf5_0 sh0)) q2_108 q2_109 q2_110 q1_3 q2_111 hd_X0_agreesAt ⟨Nat.le_of_ble_eq_true rfl, Nat.le_of_ble_eq_true rfl⟩ ⟨rfl, rfl⟩ rfl hl.1 rfl (Nat.le_of_ble_eq_true rfl) dX5_at_101 ⟨Nat.zero_le _, Nat.zero_le _⟩) (fun r3  H locs hpo hH => ?_)
        have hq := hq r3  hpo
        refine lv_if_eq (tgt := 111) hx hb dX5_at_104 (by decide) (fun hc => ?_) (fun hc => ?_)
        · have hq := hq.1 hc
          exact s_X5_atx_111 hst hEx C0   _ _ _ hq hH (lv_sub hl [] rfl)
        · have hq := hq.2 hc
          refine lv_iconst (v := 1) hx hb dX5_at_107 (by decide) ?_
          refine lv_goto (tgt := 112) hx hb dX5_at_108 (by decide) ?_
          exact s_X5_atx_112 hst hEx C0  (1 : Int32) _ _ _ hq hH (lv_sub hl [] rfl)
    by_cases hc4 : x2 = (4 : Int32)
    · have hq := hq.2.2.2.2.1 hc4
      refine lv_tableIn (tgt := 113) hx hb dX5_at_5 (by rw [hc4]; decide) (by rw [hc4]; decide) (by rw [hc4]; rfl) (by decide) ?_
      refine lv_aload_n hx hb dX5_at_113 rfl (lv_at hl 0 rfl) ?_
      refine w_getr hX hK hH ck5 sh0 0 1 1 fr5_0 rfl q1_172 dX5_at_114 ?_
      refine w_getrN hX hK hE hH ck3 (sf5_0 sh0) 1 4 5 fr3_1 rfl qn1_61 dX5_at_117 ?_
      refine lv_iload_n hx hb dX5_at_120 rfl (lv_at hl 1 rfl) ?_
      obtain ⟨hp, hq⟩ := hq
      refine w_cIp hH (w_rV (As := [.int x1]) (rest := []) hX hK hE hH (c_X1_keysAt (sf3_1 (sf5_0 sh0)) _ _ hp) ck1 (sf3_1 (sf5_0 sh0)) q2_114 q2_115 q2_116 q1_4 q2_117 hd_X1_keysAt ⟨Nat.le_of_ble_eq_true rfl, Nat.le_of_ble_eq_true rfl⟩ ⟨rfl, rfl⟩ rfl hl.1 rfl (Nat.le_of_ble_eq_true rfl) dX5_at_121 ⟨Nat.zero_le _, Nat.zero_le _⟩) (fun r4  H locs hpo hH => ?_)
      have hq := hq r4  hpo
      exact hq.elim
    have hq := hq.2.2.2.2.2 ⟨hc0, hc1, hc2, hc3, hc4⟩
    have he0 := w_toInt_ne hc0
    have he1 := w_toInt_ne hc1
    have he2 := w_toInt_ne hc2
    have he3 := w_toInt_ne hc3
    have he4 := w_toInt_ne hc4
    refine lv_tableOut (tgt := 125) hx hb dX5_at_5 (w_swOut0_4 hc0 hc1 hc2 hc3 hc4) (by decide) ?_
    exact w_throw th_X5_66_190_70 hX hst hlk hEx hE hH hl.1 dX5_at_125 dX5_at_128 dX5_at_129 dX5_at_131 dX5_at_134 ⟨Nat.le_of_ble_eq_true rfl, Nat.le_of_ble_eq_true rfl, Nat.le_of_ble_eq_true rfl, Nat.le_of_ble_eq_true rfl⟩ ⟨rfl, hq⟩
  · have hq := hq.2 hok
    obtain ⟨hp, hq⟩ := hq
    exact w_xV hEx hlk hH (w_xrS (As := [.int x1]) (rest := []) hX hK hE hH (c_X5_requirePositionx hst  _ _ hp) q2_81 q2_82 q1_1 q2_83 hd_X5_requirePosition.2 ⟨Nat.le_of_ble_eq_true rfl, Nat.le_of_ble_eq_true rfl⟩ ⟨rfl, rfl⟩ rfl hl.1 rfl (Nat.le_of_ble_eq_true rfl) dX5_at_1 ⟨Nat.le_of_ble_eq_true rfl, Nat.le_of_ble_eq_true rfl⟩) (fun E u h => by obtain ⟨h1, h2⟩ := h; subst h1; exact ⟨rfl, hq E h2⟩)
abbrev rm_X5_showKey : Room := { frames := 2, cells := 0, slots := 0, locals := 54 }
theorem hd_X5_showKey : yX5_showKey.cls = RX5 ∧ yX5_showKey.cls ≠ "java/lang/invoke/MethodHandle" ∧ yX5_showKey.cls ≠ "java/lang/invoke/VarHandle" ∧ (parseMethodDescriptor yX5_showKey.desc).map (fun d => d.parameters.length) = some 1 := by decide +kernel
set_option maxRecDepth 100000 in
set_option maxHeartbeats 4000000 in
theorem c_X5_showKey {l : Launch} {D : va_G} {cs : wC4} {ad : Nat → Nat} {b : Nat} {G : wG} (x1 : Int32) (I : wI) (hp : pre_X5_showKey x1 I) : Met l yX5_showKey (ws_ yX5_showKey cX5_showKey 2 none) rm_X5_showKey (va_Pc [.ref (G.1 0), .int x1] (wPr D cs ad b G I)) (va_Qv (fun I' => post_X5_showKey x1 I I') (wPo D cs b G) (fun q => b ≤ q)) 0 0 (fun q => b ≤ q) := by
  have hq := vc_X5_showKey x1 I hp
  refine w_met (by decide) (Nat.le_of_ble_eq_true rfl) ?_
  intro p e s m below meth c hX hr hlk hK hE hH ls hl
  have C0 : wCx p m c s _ meth cX5_showKey 2 RX5 none D cs ad b := ⟨hX, hr, hlk, hK, hE⟩
  have hX : CallFix p m c cX5_showKey 2 s _ lw_all RX5 := hX
  have hx := hX.1
  have hb := hX.2.1
  have hown := hX.2.2.2.1
  have hts := hX.2.2.2.2
  have hl : lv_has ls 2 [(0, .ref (G.1 0)), (1, .int x1)] := hl
  unfold v_X5_showKey at hq
  refine lv_aload_n hx hb dX5_showKey_0 rfl (lv_at hl 0 rfl) ?_
  refine w_getr hX hK hH ck5 sh0 6 30 30 fr5_6 rfl q1_178 dX5_showKey_1 ?_
  obtain ⟨hp, hq⟩ := hq
  refine w_cV hH (w_rV (As := []) (rest := []) hX hK hE hH (c_X0_bringHome (sf5_6 sh0)  _ hp) ck0 (sf5_6 sh0) q2_157 q2_158 q2_159 q1_3 q2_160 hd_X0_bringHome ⟨Nat.le_of_ble_eq_true rfl, Nat.le_of_ble_eq_true rfl⟩ ⟨rfl, rfl⟩ rfl hl.1 rfl (Nat.le_of_ble_eq_true rfl) dX5_showKey_4 ⟨Nat.zero_le _, Nat.zero_le _⟩) (fun  I1 H locs hpo hH => ?_)
  have hq := hq  I1 hpo
  refine lv_aload_n hx hb dX5_showKey_7 rfl (lv_at hl 0 rfl) ?_
  refine w_getr hX hK hH ck5 sh0 0 1 1 fr5_0 rfl q1_172 dX5_showKey_8 ?_
  refine w_getrN hX hK hE hH ck3 (sf5_0 sh0) 1 4 5 fr3_1 rfl qn1_61 dX5_showKey_11 ?_
  refine lv_aload_n hx hb dX5_showKey_14 rfl (lv_at hl 0 rfl) ?_
  refine w_getr hX hK hH ck5 sh0 6 30 30 fr5_6 rfl q1_178 dX5_showKey_15 ?_
  refine lv_iload_n hx hb dX5_showKey_18 rfl (lv_at hl 1 rfl) ?_
  refine lv_iconst (v := 0) hx hb dX5_showKey_19 (by decide) ?_
  obtain ⟨hp, hq⟩ := hq
  refine w_cIp hH (w_rS (As := [.int x1, .int (0 : Int32)]) (rest := [.ref (G.1 30), .ref (G.1 5)]) hX hK hE hH (c_X5_moveOf  _ _ _ hp) q2_161 q2_162 q1_1 q2_163 hd_X5_moveOf.2 ⟨Nat.le_of_ble_eq_true rfl, Nat.le_of_ble_eq_true rfl⟩ ⟨rfl, rfl⟩ rfl hl.1 rfl (Nat.le_of_ble_eq_true rfl) dX5_showKey_20 ⟨Nat.zero_le _, Nat.zero_le _⟩) (fun r2  H locs hpo hH => ?_)
  have hq := hq r2  hpo
  obtain ⟨hp, hq⟩ := hq
  refine w_cV hH (w_rV (As := [.ref (G.1 30), .int r2]) (rest := []) hX hK hE hH (c_X1_move (sf3_1 (sf5_0 sh0)) (sf5_6 sh0) _ _ hp) ck1 (sf3_1 (sf5_0 sh0)) q2_164 q2_165 q2_166 q1_4 q2_167 hd_X1_move ⟨Nat.le_of_ble_eq_true rfl, Nat.le_of_ble_eq_true rfl⟩ ⟨rfl, rfl⟩ rfl hl.1 rfl (Nat.le_of_ble_eq_true rfl) dX5_showKey_23 ⟨Nat.zero_le _, Nat.zero_le _⟩) (fun  I3 H locs hpo hH => ?_)
  have hq := hq  I3 hpo
  exact w_eV hX hr hlk hH hq dX5_showKey_26
end
