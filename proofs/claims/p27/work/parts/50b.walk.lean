section
variable {p : Program} {l : Launch} {e : Env} {s : State} {m : MethodId} {args : Array Value} {below : List Frame} {meth : Method} {c : Code} {D : va_G} {cs : wC4} {ad : Nat → Nat} {b : Nat} {G : wG}
abbrev rm_X1_move : Room := { frames := 1, cells := 0, slots := 0, locals := 31 }
theorem hd_X1_move : yX1_move.cls = RX1 ∧ yX1_move.cls ≠ "java/lang/invoke/MethodHandle" ∧ yX1_move.cls ≠ "java/lang/invoke/VarHandle" ∧ (parseMethodDescriptor yX1_move.desc).map (fun d => d.parameters.length) = some 2 := by decide +kernel
set_option maxRecDepth 100000 in
set_option maxHeartbeats 4000000 in
theorem c_X1_move {l : Launch} {D : va_G} {cs : wC4} {ad : Nat → Nat} {b : Nat} {G : wG} {k : Nat} {k1 : Nat} (hs : wSh k = (0, 1)) (hs1 : wSh k1 = (0, 0)) (x2 : Int32) (I : wI) (hp : pre_X1_move k k1 x2 I) : Met l yX1_move (ws_ yX1_move cX1_move 4 none) rm_X1_move (va_Pc [.ref (G.1 k), .ref (G.1 k1), .int x2] (wPr D cs ad b G I)) (va_Qv (fun I' => post_X1_move k k1 x2 I I') (wPo D cs b G) (fun q => b ≤ q)) 0 0 (fun q => b ≤ q) := by
  have hq := vc_X1_move k k1 x2 I hp
  refine w_met (by decide) (Nat.le_of_ble_eq_true rfl) ?_
  intro p e s m below meth c hX hr hlk hK hE hH ls hl
  have C0 : wCx p m c s _ meth cX1_move 4 RX1 none D cs ad b := ⟨hX, hr, hlk, hK, hE⟩
  have hX : CallFix p m c cX1_move 4 s _ lw_all RX1 := hX
  have hx := hX.1
  have hb := hX.2.1
  have hown := hX.2.2.2.1
  have hts := hX.2.2.2.2
  have hl : lv_has ls 4 [(0, .ref (G.1 k)), (1, .ref (G.1 k1)), (2, .int x2)] := hl
  unfold v_X1_move at hq
  refine lv_iload_n hx hb dX1_move_0 rfl (lv_at hl 2 rfl) ?_
  obtain ⟨hp, hq⟩ := hq
  refine w_cIp hH (w_rSN (As := [.int x2]) (rest := []) hX hK hE hH (c_X5_keyOf  _ _ hp) qn2_168 q2_169 q1_1 q2_170 hd_X5_keyOf.2 ⟨Nat.le_of_ble_eq_true rfl, Nat.le_of_ble_eq_true rfl⟩ ⟨rfl, rfl⟩ rfl hl.1 rfl (Nat.le_of_ble_eq_true rfl) dX1_move_1 ⟨Nat.zero_le _, Nat.zero_le _⟩) (fun r1  H locs hpo hH => ?_)
  have hq := hq r1  hpo
  refine lv_istore_n (lv' := [(3, .int r1), (0, .ref (G.1 k)), (1, .ref (G.1 k1)), (2, .int x2)]) hx hb dX1_move_4 rfl hl (by decide) rfl (fun ls hl => ?_)
  refine lv_aload_n hx hb dX1_move_5 rfl (lv_at hl 2 rfl) ?_
  refine lv_aload_n hx hb dX1_move_6 rfl (lv_at hl 1 rfl) ?_
  refine lv_iload_n hx hb dX1_move_7 rfl (lv_at hl 0 rfl) ?_
  obtain ⟨hp, hq⟩ := hq
  refine w_cIp hH (w_rV (As := [.int r1]) (rest := [.ref (G.1 k1)]) hX hK hE hH (c_X1_maskOf hs _ _ hp) ck1 hs q2_171 q2_146 q2_147 q1_4 q2_148 hd_X1_maskOf ⟨Nat.le_of_ble_eq_true rfl, Nat.le_of_ble_eq_true rfl⟩ ⟨rfl, rfl⟩ rfl hl.1 rfl (Nat.le_of_ble_eq_true rfl) dX1_move_8 ⟨Nat.zero_le _, Nat.zero_le _⟩) (fun r2  H locs hpo hH => ?_)
  have hq := hq r2  hpo
  refine lv_aload_n hx hb dX1_move_11 rfl (lv_at hl 1 rfl) ?_
  refine lv_iload_n hx hb dX1_move_12 rfl (lv_at hl 0 rfl) ?_
  obtain ⟨hp, hq⟩ := hq
  refine w_cIp hH (w_rV (As := [.int r1]) (rest := [.int r2, .ref (G.1 k1)]) hX hK hE hH (c_X1_strengthOf hs _ _ hp) ck1 hs q2_172 q2_150 q2_151 q1_4 q2_152 hd_X1_strengthOf ⟨Nat.le_of_ble_eq_true rfl, Nat.le_of_ble_eq_true rfl⟩ ⟨rfl, rfl⟩ rfl hl.1 rfl (Nat.le_of_ble_eq_true rfl) dX1_move_13 ⟨Nat.zero_le _, Nat.zero_le _⟩) (fun r3  H locs hpo hH => ?_)
  have hq := hq r3  hpo
  refine lv_iload_n hx hb dX1_move_16 rfl (lv_at hl 3 rfl) ?_
  obtain ⟨hp, hq⟩ := hq
  refine w_cIp hH (w_rSN (As := [.int x2]) (rest := [.int r3, .int r2, .ref (G.1 k1)]) hX hK hE hH (c_X5_isBack  _ _ hp) qn2_173 q2_174 q1_1 q2_175 hd_X5_isBack.2 ⟨Nat.le_of_ble_eq_true rfl, Nat.le_of_ble_eq_true rfl⟩ ⟨rfl, rfl⟩ rfl hl.1 rfl (Nat.le_of_ble_eq_true rfl) dX1_move_17 ⟨Nat.zero_le _, Nat.zero_le _⟩) (fun r4  H locs hpo hH => ?_)
  have hq := hq r4  hpo
  obtain ⟨hp, hq⟩ := hq
  refine w_cV hH (w_rV (As := [.int r2, .int r3, .int r4]) (rest := []) hX hK hE hH (c_X0_rotate hs1 _ _ _ _ hp) ck0 hs1 q2_176 q2_177 q2_178 q1_3 q2_179 hd_X0_rotate ⟨Nat.le_of_ble_eq_true rfl, Nat.le_of_ble_eq_true rfl⟩ ⟨rfl, rfl⟩ rfl hl.1 rfl (Nat.le_of_ble_eq_true rfl) dX1_move_20 ⟨Nat.zero_le _, Nat.zero_le _⟩) (fun  I5 H locs hpo hH => ?_)
  have hq := hq  I5 hpo
  exact w_eV hX hr hlk hH hq dX1_move_23
abbrev rm_J_bitCount : Room := { frames := 0, cells := 0, slots := 0, locals := 0 }
theorem hd_J_bitCount : yJ6_bitCount_0f7a4.cls = RJ6 ∧ yJ6_bitCount_0f7a4.cls ≠ "java/lang/invoke/MethodHandle" ∧ yJ6_bitCount_0f7a4.cls ≠ "java/lang/invoke/VarHandle" ∧ (parseMethodDescriptor yJ6_bitCount_0f7a4.desc).map (fun d => d.parameters.length) = some 1 := by decide +kernel
set_option maxRecDepth 100000 in
set_option maxHeartbeats 4000000 in
theorem c_J_bitCount {l : Launch} {D : va_G} {cs : wC4} {ad : Nat → Nat} {b : Nat} {G : wG} (x0 : Int32) (I : wI) (hp : pre_J_bitCount x0 I) : Met l yJ6_bitCount_0f7a4 (ws_ yJ6_bitCount_0f7a4 cJ6_bitCount_0f7a4 1 (some .int)) rm_J_bitCount (va_Pc [.int x0] (wPr D cs ad b G I)) (va_Qi (fun r I' => I' = I ∧ post_J_bitCount x0 I r) (wPo D cs b G) (fun q => b ≤ q)) 0 0 (fun q => b ≤ q) := by
  have hq := vc_J_bitCount x0 I hp
  refine w_metF (by decide +kernel) (Nat.le_of_ble_eq_true rfl) ?_
  intro p e s m below meth c hX hr hlk hK hE hH ls hl
  have C0 : wCx p m c s _ meth cJ6_bitCount_0f7a4 1 RJ6 (some .int) D cs ad b := ⟨hX, hr, hlk, hK, hE⟩
  have hX : CallFix p m c cJ6_bitCount_0f7a4 1 s _ lw_all RJ6 := hX
  have hx := hX.1
  have hb := hX.2.1
  have hown := hX.2.2.2.1
  have hts := hX.2.2.2.2
  have hl : lv_has ls 1 [(0, .int x0)] := hl
  unfold v_J_bitCount at hq
  refine lv_iload_n hx hb dJ6_bitCount_0f7a4_0 rfl (lv_at hl 0 rfl) ?_
  refine lv_iload_n hx hb dJ6_bitCount_0f7a4_1 rfl (lv_at hl 0 rfl) ?_
  refine lv_iconst (v := 1) hx hb dJ6_bitCount_0f7a4_2 (by decide) ?_
  refine lv_iushr hx hb dJ6_bitCount_0f7a4_3 rfl ?_
  refine lv_ldcw hx hb hown (hts _ q2_230) dJ6_bitCount_0f7a4_4 ?_
  refine lv_iand hx hb dJ6_bitCount_0f7a4_7 ?_
  refine lv_isub hx hb dJ6_bitCount_0f7a4_8 ?_
  refine lv_istore_n (lv' := [(0, .int (x0 - (((x0).toUInt32 >>> (((1 : Int32)).toUInt32 &&& Int32.toUInt32 31)).toInt32 &&& (1431655765 : Int32))))]) hx hb dJ6_bitCount_0f7a4_9 rfl hl (by decide) rfl (fun ls hl => ?_)
  refine lv_iload_n hx hb dJ6_bitCount_0f7a4_10 rfl (lv_at hl 0 rfl) ?_
  refine lv_ldcw hx hb hown (hts _ q2_231) dJ6_bitCount_0f7a4_11 ?_
  refine lv_iand hx hb dJ6_bitCount_0f7a4_14 ?_
  refine lv_iload_n hx hb dJ6_bitCount_0f7a4_15 rfl (lv_at hl 0 rfl) ?_
  refine lv_iconst (v := 2) hx hb dJ6_bitCount_0f7a4_16 (by decide) ?_
  refine lv_iushr hx hb dJ6_bitCount_0f7a4_17 rfl ?_
  refine lv_ldcw hx hb hown (hts _ q2_231) dJ6_bitCount_0f7a4_18 ?_
  refine lv_iand hx hb dJ6_bitCount_0f7a4_21 ?_
  refine lv_iadd hx hb dJ6_bitCount_0f7a4_22 ?_
  refine lv_istore_n (lv' := [(0, .int (((x0 - (((x0).toUInt32 >>> (((1 : Int32)).toUInt32 &&& Int32.toUInt32 31)).toInt32 &&& (1431655765 : Int32))) &&& (858993459 : Int32)) + ((((x0 - (((x0).toUInt32 >>> (((1 : Int32)).toUInt32 &&& Int32.toUInt32 31)).toInt32 &&& (1431655765 : Int32)))).toUInt32 >>> (((2 : Int32)).toUInt32 &&& Int32.toUInt32 31)).toInt32 &&& (858993459 : Int32))))]) hx hb dJ6_bitCount_0f7a4_23 rfl hl (by decide) rfl (fun ls hl => ?_)
  refine lv_iload_n hx hb dJ6_bitCount_0f7a4_24 rfl (lv_at hl 0 rfl) ?_
  refine lv_iload_n hx hb dJ6_bitCount_0f7a4_25 rfl (lv_at hl 0 rfl) ?_
  refine lv_iconst (v := 4) hx hb dJ6_bitCount_0f7a4_26 (by decide) ?_
  refine lv_iushr hx hb dJ6_bitCount_0f7a4_27 rfl ?_
  refine lv_iadd hx hb dJ6_bitCount_0f7a4_28 ?_
  refine lv_ldcw hx hb hown (hts _ q2_232) dJ6_bitCount_0f7a4_29 ?_
  refine lv_iand hx hb dJ6_bitCount_0f7a4_32 ?_
  refine lv_istore_n (lv' := [(0, .int (((((x0 - (((x0).toUInt32 >>> (((1 : Int32)).toUInt32 &&& Int32.toUInt32 31)).toInt32 &&& (1431655765 : Int32))) &&& (858993459 : Int32)) + ((((x0 - (((x0).toUInt32 >>> (((1 : Int32)).toUInt32 &&& Int32.toUInt32 31)).toInt32 &&& (1431655765 : Int32)))).toUInt32 >>> (((2 : Int32)).toUInt32 &&& Int32.toUInt32 31)).toInt32 &&& (858993459 : Int32))) + (((((x0 - (((x0).toUInt32 >>> (((1 : Int32)).toUInt32 &&& Int32.toUInt32 31)).toInt32 &&& (1431655765 : Int32))) &&& (858993459 : Int32)) + ((((x0 - (((x0).toUInt32 >>> (((1 : Int32)).toUInt32 &&& Int32.toUInt32 31)).toInt32 &&& (1431655765 : Int32)))).toUInt32 >>> (((2 : Int32)).toUInt32 &&& Int32.toUInt32 31)).toInt32 &&& (858993459 : Int32)))).toUInt32 >>> (((4 : Int32)).toUInt32 &&& Int32.toUInt32 31)).toInt32) &&& (252645135 : Int32)))]) hx hb dJ6_bitCount_0f7a4_33 rfl hl (by decide) rfl (fun ls hl => ?_)
  refine lv_iload_n hx hb dJ6_bitCount_0f7a4_34 rfl (lv_at hl 0 rfl) ?_
  refine lv_iload_n hx hb dJ6_bitCount_0f7a4_35 rfl (lv_at hl 0 rfl) ?_
  refine lv_bipush (v := 8) hx hb dJ6_bitCount_0f7a4_36 (by decide) ?_
  refine lv_iushr hx hb dJ6_bitCount_0f7a4_38 rfl ?_
  refine lv_iadd hx hb dJ6_bitCount_0f7a4_39 ?_
  refine lv_istore_n (lv' := [(0, .int ((((((x0 - (((x0).toUInt32 >>> (((1 : Int32)).toUInt32 &&& Int32.toUInt32 31)).toInt32 &&& (1431655765 : Int32))) &&& (858993459 : Int32)) + ((((x0 - (((x0).toUInt32 >>> (((1 : Int32)).toUInt32 &&& Int32.toUInt32 31)).toInt32 &&& (1431655765 : Int32)))).toUInt32 >>> (((2 : Int32)).toUInt32 &&& Int32.toUInt32 31)).toInt32 &&& (858993459 : Int32))) + (((((x0 - (((x0).toUInt32 >>> (((1 : Int32)).toUInt32 &&& Int32.toUInt32 31)).toInt32 &&& (1431655765 : Int32))) &&& (858993459 : Int32)) + ((((x0 - (((x0).toUInt32 >>> (((1 : Int32)).toUInt32 &&& Int32.toUInt32 31)).toInt32 &&& (1431655765 : Int32)))).toUInt32 >>> (((2 : Int32)).toUInt32 &&& Int32.toUInt32 31)).toInt32 &&& (858993459 : Int32)))).toUInt32 >>> (((4 : Int32)).toUInt32 &&& Int32.toUInt32 31)).toInt32) &&& (252645135 : Int32)) + (((((((x0 - (((x0).toUInt32 >>> (((1 : Int32)).toUInt32 &&& Int32.toUInt32 31)).toInt32 &&& (1431655765 : Int32))) &&& (858993459 : Int32)) + ((((x0 - (((x0).toUInt32 >>> (((1 : Int32)).toUInt32 &&& Int32.toUInt32 31)).toInt32 &&& (1431655765 : Int32)))).toUInt32 >>> (((2 : Int32)).toUInt32 &&& Int32.toUInt32 31)).toInt32 &&& (858993459 : Int32))) + (((((x0 - (((x0).toUInt32 >>> (((1 : Int32)).toUInt32 &&& Int32.toUInt32 31)).toInt32 &&& (1431655765 : Int32))) &&& (858993459 : Int32)) + ((((x0 - (((x0).toUInt32 >>> (((1 : Int32)).toUInt32 &&& Int32.toUInt32 31)).toInt32 &&& (1431655765 : Int32)))).toUInt32 >>> (((2 : Int32)).toUInt32 &&& Int32.toUInt32 31)).toInt32 &&& (858993459 : Int32)))).toUInt32 >>> (((4 : Int32)).toUInt32 &&& Int32.toUInt32 31)).toInt32) &&& (252645135 : Int32))).toUInt32 >>> (((8 : Int32)).toUInt32 &&& Int32.toUInt32 31)).toInt32))]) hx hb dJ6_bitCount_0f7a4_40 rfl hl (by decide) rfl (fun ls hl => ?_)
  refine lv_iload_n hx hb dJ6_bitCount_0f7a4_41 rfl (lv_at hl 0 rfl) ?_
  refine lv_iload_n hx hb dJ6_bitCount_0f7a4_42 rfl (lv_at hl 0 rfl) ?_
  refine lv_bipush (v := 16) hx hb dJ6_bitCount_0f7a4_43 (by decide) ?_
  refine lv_iushr hx hb dJ6_bitCount_0f7a4_45 rfl ?_
  refine lv_iadd hx hb dJ6_bitCount_0f7a4_46 ?_
  refine lv_istore_n (lv' := [(0, .int (((((((x0 - (((x0).toUInt32 >>> (((1 : Int32)).toUInt32 &&& Int32.toUInt32 31)).toInt32 &&& (1431655765 : Int32))) &&& (858993459 : Int32)) + ((((x0 - (((x0).toUInt32 >>> (((1 : Int32)).toUInt32 &&& Int32.toUInt32 31)).toInt32 &&& (1431655765 : Int32)))).toUInt32 >>> (((2 : Int32)).toUInt32 &&& Int32.toUInt32 31)).toInt32 &&& (858993459 : Int32))) + (((((x0 - (((x0).toUInt32 >>> (((1 : Int32)).toUInt32 &&& Int32.toUInt32 31)).toInt32 &&& (1431655765 : Int32))) &&& (858993459 : Int32)) + ((((x0 - (((x0).toUInt32 >>> (((1 : Int32)).toUInt32 &&& Int32.toUInt32 31)).toInt32 &&& (1431655765 : Int32)))).toUInt32 >>> (((2 : Int32)).toUInt32 &&& Int32.toUInt32 31)).toInt32 &&& (858993459 : Int32)))).toUInt32 >>> (((4 : Int32)).toUInt32 &&& Int32.toUInt32 31)).toInt32) &&& (252645135 : Int32)) + (((((((x0 - (((x0).toUInt32 >>> (((1 : Int32)).toUInt32 &&& Int32.toUInt32 31)).toInt32 &&& (1431655765 : Int32))) &&& (858993459 : Int32)) + ((((x0 - (((x0).toUInt32 >>> (((1 : Int32)).toUInt32 &&& Int32.toUInt32 31)).toInt32 &&& (1431655765 : Int32)))).toUInt32 >>> (((2 : Int32)).toUInt32 &&& Int32.toUInt32 31)).toInt32 &&& (858993459 : Int32))) + (((((x0 - (((x0).toUInt32 >>> (((1 : Int32)).toUInt32 &&& Int32.toUInt32 31)).toInt32 &&& (1431655765 : Int32))) &&& (858993459 : Int32)) + ((((x0 - (((x0).toUInt32 >>> (((1 : Int32)).toUInt32 &&& Int32.toUInt32 31)).toInt32 &&& (1431655765 : Int32)))).toUInt32 >>> (((2 : Int32)).toUInt32 &&& Int32.toUInt32 31)).toInt32 &&& (858993459 : Int32)))).toUInt32 >>> (((4 : Int32)).toUInt32 &&& Int32.toUInt32 31)).toInt32) &&& (252645135 : Int32))).toUInt32 >>> (((8 : Int32)).toUInt32 &&& Int32.toUInt32 31)).toInt32) + ((((((((x0 - (((x0).toUInt32 >>> (((1 : Int32)).toUInt32 &&& Int32.toUInt32 31)).toInt32 &&& (1431655765 : Int32))) &&& (858993459 : Int32)) + ((((x0 - (((x0).toUInt32 >>> (((1 : Int32)).toUInt32 &&& Int32.toUInt32 31)).toInt32 &&& (1431655765 : Int32)))).toUInt32 >>> (((2 : Int32)).toUInt32 &&& Int32.toUInt32 31)).toInt32 &&& (858993459 : Int32))) + (((((x0 - (((x0).toUInt32 >>> (((1 : Int32)).toUInt32 &&& Int32.toUInt32 31)).toInt32 &&& (1431655765 : Int32))) &&& (858993459 : Int32)) + ((((x0 - (((x0).toUInt32 >>> (((1 : Int32)).toUInt32 &&& Int32.toUInt32 31)).toInt32 &&& (1431655765 : Int32)))).toUInt32 >>> (((2 : Int32)).toUInt32 &&& Int32.toUInt32 31)).toInt32 &&& (858993459 : Int32)))).toUInt32 >>> (((4 : Int32)).toUInt32 &&& Int32.toUInt32 31)).toInt32) &&& (252645135 : Int32)) + (((((((x0 - (((x0).toUInt32 >>> (((1 : Int32)).toUInt32 &&& Int32.toUInt32 31)).toInt32 &&& (1431655765 : Int32))) &&& (858993459 : Int32)) + ((((x0 - (((x0).toUInt32 >>> (((1 : Int32)).toUInt32 &&& Int32.toUInt32 31)).toInt32 &&& (1431655765 : Int32)))).toUInt32 >>> (((2 : Int32)).toUInt32 &&& Int32.toUInt32 31)).toInt32 &&& (858993459 : Int32))) + (((((x0 - (((x0).toUInt32 >>> (((1 : Int32)).toUInt32 &&& Int32.toUInt32 31)).toInt32 &&& (1431655765 : Int32))) &&& (858993459 : Int32)) + ((((x0 - (((x0).toUInt32 >>> (((1 : Int32)).toUInt32 &&& Int32.toUInt32 31)).toInt32 &&& (1431655765 : Int32)))).toUInt32 >>> (((2 : Int32)).toUInt32 &&& Int32.toUInt32 31)).toInt32 &&& (858993459 : Int32)))).toUInt32 >>> (((4 : Int32)).toUInt32 &&& Int32.toUInt32 31)).toInt32) &&& (252645135 : Int32))).toUInt32 >>> (((8 : Int32)).toUInt32 &&& Int32.toUInt32 31)).toInt32)).toUInt32 >>> (((16 : Int32)).toUInt32 &&& Int32.toUInt32 31)).toInt32))]) hx hb dJ6_bitCount_0f7a4_47 rfl hl (by decide) rfl (fun ls hl => ?_)
  refine lv_iload_n hx hb dJ6_bitCount_0f7a4_48 rfl (lv_at hl 0 rfl) ?_
  refine lv_bipush (v := 63) hx hb dJ6_bitCount_0f7a4_49 (by decide) ?_
  refine lv_iand hx hb dJ6_bitCount_0f7a4_51 ?_
  exact w_eI hX hr hlk hH ⟨rfl, hq⟩ dJ6_bitCount_0f7a4_52
abbrev rm_X1_notchesBy : Room := { frames := 1, cells := 0, slots := 0, locals := 21 }
theorem hd_X1_notchesBy : yX1_notchesBy.cls = RX1 ∧ yX1_notchesBy.cls ≠ "java/lang/invoke/MethodHandle" ∧ yX1_notchesBy.cls ≠ "java/lang/invoke/VarHandle" ∧ (parseMethodDescriptor yX1_notchesBy.desc).map (fun d => d.parameters.length) = some 1 := by decide +kernel
set_option maxRecDepth 100000 in
set_option maxHeartbeats 4000000 in
theorem s_X1_notchesBy_33 {k : Nat} {x1 : Int32} {I : wI} {Q : Int32 → Prop} (hs : wSh k = (0, 1)) (C0 : wCx p m c s args meth cX1_notchesBy 4 RX1 (some .int) D cs ad b) : ∀ (t0 : Int32) (H : Heap) (locs : List Loc) (ls : Array Slot), v_X1_notchesBy_33 k x1 I Q t0 → wH D cs b G I s H locs → lv_has ls 4 [] → W p l e rm_X1_notchesBy s m args below meth c H locs 0 0 (MQ below (va_Qi (fun r I' => I' = I ∧ Q r) (wPo D cs b G) (fun q => b ≤ q)) args s 0 0 (fun q => b ≤ q)) (F0 m 33 ls [.int t0]) := by
  obtain ⟨hX, hr, hlk, hK, hE⟩ := id C0
  have hx := hX.1
  have hb := hX.2.1
  have hown := hX.2.2.2.1
  have hts := hX.2.2.2.2
  intro t0 H locs ls hq hH hl
  unfold v_X1_notchesBy_33 at hq
  exact w_eI hX hr hlk hH ⟨rfl, hq⟩ dX1_notchesBy_33
set_option maxRecDepth 100000 in
set_option maxHeartbeats 4000000 in
theorem c_X1_notchesBy {l : Launch} {D : va_G} {cs : wC4} {ad : Nat → Nat} {b : Nat} {G : wG} {k : Nat} (hs : wSh k = (0, 1)) (x1 : Int32) (I : wI) (hp : pre_X1_notchesBy k x1 I) : Met l yX1_notchesBy (ws_ yX1_notchesBy cX1_notchesBy 4 (some .int)) rm_X1_notchesBy (va_Pc [.ref (G.1 k), .int x1] (wPr D cs ad b G I)) (va_Qi (fun r I' => I' = I ∧ post_X1_notchesBy k x1 I r) (wPo D cs b G) (fun q => b ≤ q)) 0 0 (fun q => b ≤ q) := by
  have hq := vc_X1_notchesBy k x1 I hp
  refine w_met (by decide) (Nat.le_of_ble_eq_true rfl) ?_
  intro p e s m below meth c hX hr hlk hK hE hH ls hl
  have C0 : wCx p m c s _ meth cX1_notchesBy 4 RX1 (some .int) D cs ad b := ⟨hX, hr, hlk, hK, hE⟩
  have hX : CallFix p m c cX1_notchesBy 4 s _ lw_all RX1 := hX
  have hx := hX.1
  have hb := hX.2.1
  have hown := hX.2.2.2.1
  have hts := hX.2.2.2.2
  have hl : lv_has ls 4 [(0, .ref (G.1 k)), (1, .int x1)] := hl
  unfold v_X1_notchesBy at hq
  refine lv_iload_n hx hb dX1_notchesBy_0 rfl (lv_at hl 1 rfl) ?_
  obtain ⟨hp, hq⟩ := hq
  refine w_cIp hH (w_rSN (As := [.int x1]) (rest := []) hX hK hE hH (c_X5_keyOf  _ _ hp) qn2_168 q2_169 q1_1 q2_170 hd_X5_keyOf.2 ⟨Nat.le_of_ble_eq_true rfl, Nat.le_of_ble_eq_true rfl⟩ ⟨rfl, rfl⟩ rfl hl.1 rfl (Nat.le_of_ble_eq_true rfl) dX1_notchesBy_1 ⟨Nat.zero_le _, Nat.zero_le _⟩) (fun r1  H locs hpo hH => ?_)
  have hq := hq r1  hpo
  refine lv_istore_n (lv' := [(2, .int r1), (0, .ref (G.1 k)), (1, .int x1)]) hx hb dX1_notchesBy_4 rfl hl (by decide) rfl (fun ls hl => ?_)
  refine lv_aload_n hx hb dX1_notchesBy_5 rfl (lv_at hl 1 rfl) ?_
  refine lv_iload_n hx hb dX1_notchesBy_6 rfl (lv_at hl 0 rfl) ?_
  obtain ⟨hp, hq⟩ := hq
  refine w_cIp hH (w_rV (As := [.int r1]) (rest := []) hX hK hE hH (c_X1_strengthOf hs _ _ hp) ck1 hs q2_172 q2_150 q2_151 q1_4 q2_152 hd_X1_strengthOf ⟨Nat.le_of_ble_eq_true rfl, Nat.le_of_ble_eq_true rfl⟩ ⟨rfl, rfl⟩ rfl hl.1 rfl (Nat.le_of_ble_eq_true rfl) dX1_notchesBy_7 ⟨Nat.zero_le _, Nat.zero_le _⟩) (fun r2  H locs hpo hH => ?_)
  have hq := hq r2  hpo
  refine lv_aload_n hx hb dX1_notchesBy_10 rfl (lv_at hl 1 rfl) ?_
  refine lv_iload_n hx hb dX1_notchesBy_11 rfl (lv_at hl 0 rfl) ?_
  obtain ⟨hp, hq⟩ := hq
  refine w_cIp hH (w_rV (As := [.int r1]) (rest := [.int r2]) hX hK hE hH (c_X1_maskOf hs _ _ hp) ck1 hs q2_171 q2_146 q2_147 q1_4 q2_148 hd_X1_maskOf ⟨Nat.le_of_ble_eq_true rfl, Nat.le_of_ble_eq_true rfl⟩ ⟨rfl, rfl⟩ rfl hl.1 rfl (Nat.le_of_ble_eq_true rfl) dX1_notchesBy_12 ⟨Nat.zero_le _, Nat.zero_le _⟩) (fun r3  H locs hpo hH => ?_)
  have hq := hq r3  hpo
  obtain ⟨hp, hq⟩ := hq
  refine w_cIp hH (w_rS (As := [.int r3]) (rest := [.int r2]) hX hK hE hH (c_J_bitCount  _ _ hp) q3_153 q2_228 q1_12 q2_229 hd_J_bitCount.2 ⟨Nat.le_of_ble_eq_true rfl, Nat.le_of_ble_eq_true rfl⟩ ⟨rfl, rfl⟩ rfl hl.1 rfl (Nat.le_of_ble_eq_true rfl) dX1_notchesBy_15 ⟨Nat.zero_le _, Nat.zero_le _⟩) (fun r4  H locs hpo hH => ?_)
  have hq := hq r4  hpo
  refine lv_imul hx hb dX1_notchesBy_18 ?_
  refine lv_istore_n (lv' := [(3, .int (r2 * r4)), (2, .int r1), (0, .ref (G.1 k)), (1, .int x1)]) hx hb dX1_notchesBy_19 rfl hl (by decide) rfl (fun ls hl => ?_)
  refine lv_iload_n hx hb dX1_notchesBy_20 rfl (lv_at hl 3 rfl) ?_
  obtain ⟨hp, hq⟩ := hq
  refine w_cIp hH (w_rSN (As := [.int x1]) (rest := []) hX hK hE hH (c_X5_isBack  _ _ hp) qn2_173 q2_174 q1_1 q2_175 hd_X5_isBack.2 ⟨Nat.le_of_ble_eq_true rfl, Nat.le_of_ble_eq_true rfl⟩ ⟨rfl, rfl⟩ rfl hl.1 rfl (Nat.le_of_ble_eq_true rfl) dX1_notchesBy_21 ⟨Nat.zero_le _, Nat.zero_le _⟩) (fun r5  H locs hpo hH => ?_)
  have hq := hq r5  hpo
  refine lv_if_eq (tgt := 32) hx hb dX1_notchesBy_24 (by decide) (fun hc => ?_) (fun hc => ?_)
  · have hq := hq.1 hc
    refine lv_iload_n hx hb dX1_notchesBy_32 rfl (lv_at hl 0 rfl) ?_
    exact s_X1_notchesBy_33 hs C0  (r2 * r4) _ _ _ hq hH (lv_sub hl [] rfl)
  · have hq := hq.2 hc
    refine lv_iload_n hx hb dX1_notchesBy_27 rfl (lv_at hl 0 rfl) ?_
    refine lv_ineg hx hb dX1_notchesBy_28 ?_
    refine lv_goto (tgt := 33) hx hb dX1_notchesBy_29 (by decide) ?_
    exact s_X1_notchesBy_33 hs C0  (-(r2 * r4)) _ _ _ hq hH (lv_sub hl [] rfl)
abbrev rm_J_floorMod : Room := { frames := 0, cells := 0, slots := 0, locals := 0 }
theorem hd_J_floorMod : yJ9_floorMod_7cf53.cls = RJ9 ∧ yJ9_floorMod_7cf53.cls ≠ "java/lang/invoke/MethodHandle" ∧ yJ9_floorMod_7cf53.cls ≠ "java/lang/invoke/VarHandle" ∧ (parseMethodDescriptor yJ9_floorMod_7cf53.desc).map (fun d => d.parameters.length) = some 2 := by decide +kernel
set_option maxRecDepth 100000 in
set_option maxHeartbeats 4000000 in
theorem s_J_floorMod_18 {x0 : Int32} {x1 : Int32} {I : wI} {Q : Int32 → Prop} (C0 : wCx p m c s args meth cJ9_floorMod_7cf53 3 RJ9 (some .int) D cs ad b) : ∀ (v2 : Int32) (H : Heap) (locs : List Loc) (ls : Array Slot), v_J_floorMod_18 x0 x1 I Q v2 → wH D cs b G I s H locs → lv_has ls 3 [(2, .int v2)] → W p l e rm_J_floorMod s m args below meth c H locs 0 0 (MQ below (va_Qi (fun r I' => I' = I ∧ Q r) (wPo D cs b G) (fun q => b ≤ q)) args s 0 0 (fun q => b ≤ q)) (F0 m 18 ls []) := by
  obtain ⟨hX, hr, hlk, hK, hE⟩ := id C0
  have hx := hX.1
  have hb := hX.2.1
  have hown := hX.2.2.2.1
  have hts := hX.2.2.2.2
  intro v2 H locs ls hq hH hl
  unfold v_J_floorMod_18 at hq
  refine lv_iload_n hx hb dJ9_floorMod_7cf53_18 rfl (lv_at hl 0 rfl) ?_
  exact w_eI hX hr hlk hH ⟨rfl, hq⟩ dJ9_floorMod_7cf53_19
set_option maxRecDepth 100000 in
set_option maxHeartbeats 4000000 in
theorem c_J_floorMod {l : Launch} {D : va_G} {cs : wC4} {ad : Nat → Nat} {b : Nat} {G : wG} (x0 : Int32) (x1 : Int32) (I : wI) (hp : pre_J_floorMod x0 x1 I) : Met l yJ9_floorMod_7cf53 (ws_ yJ9_floorMod_7cf53 cJ9_floorMod_7cf53 3 (some .int)) rm_J_floorMod (va_Pc [.int x0, .int x1] (wPr D cs ad b G I)) (va_Qi (fun r I' => I' = I ∧ post_J_floorMod x0 x1 I r) (wPo D cs b G) (fun q => b ≤ q)) 0 0 (fun q => b ≤ q) := by
  have hq := vc_J_floorMod x0 x1 I hp
  refine w_metF (by decide +kernel) (Nat.le_of_ble_eq_true rfl) ?_
  intro p e s m below meth c hX hr hlk hK hE hH ls hl
  have C0 : wCx p m c s _ meth cJ9_floorMod_7cf53 3 RJ9 (some .int) D cs ad b := ⟨hX, hr, hlk, hK, hE⟩
  have hX : CallFix p m c cJ9_floorMod_7cf53 3 s _ lw_all RJ9 := hX
  have hx := hX.1
  have hb := hX.2.1
  have hown := hX.2.2.2.1
  have hts := hX.2.2.2.2
  have hl : lv_has ls 3 [(0, .int x0), (1, .int x1)] := hl
  unfold v_J_floorMod at hq
  refine lv_iload_n hx hb dJ9_floorMod_7cf53_0 rfl (lv_at hl 0 rfl) ?_
  refine lv_iload_n hx hb dJ9_floorMod_7cf53_1 rfl (lv_at hl 1 rfl) ?_
  obtain ⟨hc, hq⟩ := hq
  refine lv_irem hx hb dJ9_floorMod_7cf53_2 hc ?_
  refine lv_istore_n (lv' := [(2, .int (x0 - x0 / x1 * x1)), (0, .int x0), (1, .int x1)]) hx hb dJ9_floorMod_7cf53_3 rfl hl (by decide) rfl (fun ls hl => ?_)
  refine lv_iload_n hx hb dJ9_floorMod_7cf53_4 rfl (lv_at hl 1 rfl) ?_
  refine lv_iload_n hx hb dJ9_floorMod_7cf53_5 rfl (lv_at hl 2 rfl) ?_
  refine lv_ixor hx hb dJ9_floorMod_7cf53_6 ?_
  refine lv_if_ge (tgt := 18) hx hb dJ9_floorMod_7cf53_7 (by decide) (fun hc => ?_) (fun hc => ?_)
  · have hq := hq.1 hc
    exact s_J_floorMod_18  C0  (x0 - x0 / x1 * x1) _ _ _ hq hH (lv_sub hl [0] rfl)
  · have hq := hq.2 hc
    refine lv_iload_n hx hb dJ9_floorMod_7cf53_10 rfl (lv_at hl 0 rfl) ?_
    refine lv_if_eq (tgt := 18) hx hb dJ9_floorMod_7cf53_11 (by decide) (fun hc => ?_) (fun hc => ?_)
    · have hq := hq.1 hc
      exact s_J_floorMod_18  C0  (x0 - x0 / x1 * x1) _ _ _ hq hH (lv_sub hl [0] rfl)
    · have hq := hq.2 hc
      refine lv_iload_n hx hb dJ9_floorMod_7cf53_14 rfl (lv_at hl 0 rfl) ?_
      refine lv_iload_n hx hb dJ9_floorMod_7cf53_15 rfl (lv_at hl 2 rfl) ?_
      refine lv_iadd hx hb dJ9_floorMod_7cf53_16 ?_
      exact w_eI hX hr hlk hH ⟨rfl, hq⟩ dJ9_floorMod_7cf53_17
abbrev rm_X3_doMove : Room := { frames := 3, cells := 0, slots := 0, locals := 64 }
theorem hd_X3_doMove : yX3_doMove.cls = RX3 ∧ yX3_doMove.cls ≠ "java/lang/invoke/MethodHandle" ∧ yX3_doMove.cls ≠ "java/lang/invoke/VarHandle" ∧ (parseMethodDescriptor yX3_doMove.desc).map (fun d => d.parameters.length) = some 1 := by decide +kernel
set_option maxRecDepth 100000 in
set_option maxHeartbeats 4000000 in
theorem s_X3_doMove_93 {k : Nat} {x1 : Int32} {Q : wI → Prop} (hs : wSh k = (0, 3)) (C0 : wCx p m c s args meth cX3_doMove 4 RX3 none D cs ad b) : ∀  (I : wI) (H : Heap) (locs : List Loc) (ls : Array Slot), v_X3_doMove_93 k x1 Q  I → wH D cs b G I s H locs → lv_has ls 4 [] → W p l e rm_X3_doMove s m args below meth c H locs 0 0 (MQ below (va_Qv (Q) (wPo D cs b G) (fun q => b ≤ q)) args s 0 0 (fun q => b ≤ q)) (F0 m 93 ls []) := by
  obtain ⟨hX, hr, hlk, hK, hE⟩ := id C0
  have hx := hX.1
  have hb := hX.2.1
  have hown := hX.2.2.2.1
  have hts := hX.2.2.2.2
  intro  I H locs ls hq hH hl
  unfold v_X3_doMove_93 at hq
  exact w_eV hX hr hlk hH hq dX3_doMove_93
set_option maxRecDepth 100000 in
set_option maxHeartbeats 4000000 in
theorem s_X3_doMove_72 {k : Nat} {x1 : Int32} {Q : wI → Prop} (hs : wSh k = (0, 3)) (C0 : wCx p m c s args meth cX3_doMove 4 RX3 none D cs ad b) : ∀ (v2 : Int32) (I : wI) (H : Heap) (locs : List Loc) (ls : Array Slot), v_X3_doMove_72 k x1 Q v2 I → wH D cs b G I s H locs → lv_has ls 4 [(0, .ref (G.1 k)), (2, .int v2)] → W p l e rm_X3_doMove s m args below meth c H locs 0 0 (MQ below (va_Qv (Q) (wPo D cs b G) (fun q => b ≤ q)) args s 0 0 (fun q => b ≤ q)) (F0 m 72 ls []) := by
  obtain ⟨hX, hr, hlk, hK, hE⟩ := id C0
  have hx := hX.1
  have hb := hX.2.1
  have hown := hX.2.2.2.1
  have hts := hX.2.2.2.2
  intro v2 I H locs ls hq hH hl
  unfold v_X3_doMove_72 at hq
  refine lv_iload_n hx hb dX3_doMove_72 rfl (lv_at hl 1 rfl) ?_
  refine lv_if_ne (tgt := 93) hx hb dX3_doMove_73 (by decide) (fun hc => ?_) (fun hc => ?_)
  · have hq := hq.1 hc
    exact s_X3_doMove_93 hs C0   _ _ _ _ hq hH (lv_sub hl [] rfl)
  · have hq := hq.2 hc
    refine lv_aload_n hx hb dX3_doMove_76 rfl (lv_at hl 0 rfl) ?_
    obtain ⟨hp, hq⟩ := hq
    refine w_cIp hH (w_rV (As := []) (rest := []) hX hK hE hH (c_X3_opens hs  _ hp) ck3 hs q3_147 q3_5 q3_6 q1_2 q3_7 hd_X3_opens ⟨Nat.le_of_ble_eq_true rfl, Nat.le_of_ble_eq_true rfl⟩ ⟨rfl, rfl⟩ rfl hl.1 rfl (Nat.le_of_ble_eq_true rfl) dX3_doMove_77 ⟨Nat.zero_le _, Nat.zero_le _⟩) (fun r1  H locs hpo hH => ?_)
    have hq := hq r1  hpo
    refine lv_if_eq (tgt := 93) hx hb dX3_doMove_80 (by decide) (fun hc => ?_) (fun hc => ?_)
    · have hq := hq.1 hc
      exact s_X3_doMove_93 hs C0   _ _ _ _ hq hH (lv_sub hl [] rfl)
    · have hq := hq.2 hc
      refine lv_aload_n hx hb dX3_doMove_83 rfl (lv_at hl 0 rfl) ?_
      refine lv_dup hx hb dX3_doMove_84 rfl ?_
      refine w_geti hX hK hH ck3 hs 8 fi3_8 q1_75 dX3_doMove_85 ?_
      refine lv_iconst (v := 1) hx hb dX3_doMove_88 (by decide) ?_
      refine lv_iadd hx hb dX3_doMove_89 ?_
      refine w_puti hX hK hH ck3 hs 8 fw3_8 q1_75 dX3_doMove_90 (fun I2 H locs hI hH => ?_)
      have hq := hq I2 hI
      exact s_X3_doMove_93 hs C0   _ _ _ _ hq hH (lv_sub hl [] rfl)
set_option maxRecDepth 100000 in
set_option maxHeartbeats 4000000 in
theorem c_X3_doMove {l : Launch} {D : va_G} {cs : wC4} {ad : Nat → Nat} {b : Nat} {G : wG} {k : Nat} (hs : wSh k = (0, 3)) (x1 : Int32) (I : wI) (hp : pre_X3_doMove k x1 I) : Met l yX3_doMove (ws_ yX3_doMove cX3_doMove 4 none) rm_X3_doMove (va_Pc [.ref (G.1 k), .int x1] (wPr D cs ad b G I)) (va_Qv (fun I' => post_X3_doMove k x1 I I') (wPo D cs b G) (fun q => b ≤ q)) 0 0 (fun q => b ≤ q) := by
  have hq := vc_X3_doMove k x1 I hp
  refine w_met (by decide) (Nat.le_of_ble_eq_true rfl) ?_
  intro p e s m below meth c hX hr hlk hK hE hH ls hl
  have C0 : wCx p m c s _ meth cX3_doMove 4 RX3 none D cs ad b := ⟨hX, hr, hlk, hK, hE⟩
  have hX : CallFix p m c cX3_doMove 4 s _ lw_all RX3 := hX
  have hx := hX.1
  have hb := hX.2.1
  have hown := hX.2.2.2.1
  have hts := hX.2.2.2.2
  have hl : lv_has ls 4 [(0, .ref (G.1 k)), (1, .int x1)] := hl
  unfold v_X3_doMove at hq
  refine lv_aload_n hx hb dX3_doMove_0 rfl (lv_at hl 0 rfl) ?_
  obtain ⟨hp, hq⟩ := hq
  refine w_cIp hH (w_rV (As := []) (rest := []) hX hK hE hH (c_X3_opens hs  _ hp) ck3 hs q3_147 q3_5 q3_6 q1_2 q3_7 hd_X3_opens ⟨Nat.le_of_ble_eq_true rfl, Nat.le_of_ble_eq_true rfl⟩ ⟨rfl, rfl⟩ rfl hl.1 rfl (Nat.le_of_ble_eq_true rfl) dX3_doMove_1 ⟨Nat.zero_le _, Nat.zero_le _⟩) (fun r1  H locs hpo hH => ?_)
  have hq := hq r1  hpo
  refine lv_istore_n (lv' := [(2, .int r1), (0, .ref (G.1 k)), (1, .int x1)]) hx hb dX3_doMove_4 rfl hl (by decide) rfl (fun ls hl => ?_)
  refine lv_aload_n hx hb dX3_doMove_5 rfl (lv_at hl 1 rfl) ?_
  refine w_getr hX hK hH ck3 hs 1 4 (k + 4) fr3_1 rfl q1_59 dX3_doMove_6 ?_
  refine lv_aload_n hx hb dX3_doMove_9 rfl (lv_at hl 1 rfl) ?_
  refine w_getr hX hK hH ck3 hs 0 1 (k + 1) fr3_0 rfl q1_56 dX3_doMove_10 ?_
  refine lv_iload_n hx hb dX3_doMove_13 rfl (lv_at hl 2 rfl) ?_
  obtain ⟨hp, hq⟩ := hq
  refine w_cV hH (w_rV (As := [.ref (G.1 (k + 1)), .int x1]) (rest := []) hX hK hE hH (c_X1_move (sf3_1 hs) (sf3_0 hs) _ _ hp) ck1 (sf3_1 hs) q3_148 q2_165 q2_166 q1_4 q2_167 hd_X1_move ⟨Nat.le_of_ble_eq_true rfl, Nat.le_of_ble_eq_true rfl⟩ ⟨rfl, rfl⟩ rfl hl.1 rfl (Nat.le_of_ble_eq_true rfl) dX3_doMove_14 ⟨Nat.zero_le _, Nat.zero_le _⟩) (fun  I2 H locs hpo hH => ?_)
  have hq := hq  I2 hpo
  refine lv_aload_n hx hb dX3_doMove_17 rfl (lv_at hl 1 rfl) ?_
  refine lv_aload_n hx hb dX3_doMove_18 rfl (lv_at hl 1 rfl) ?_
  refine w_geti hX hK hH ck3 hs 7 fi3_7 q1_73 dX3_doMove_19 ?_
  refine lv_aload_n hx hb dX3_doMove_22 rfl (lv_at hl 1 rfl) ?_
  refine w_getr hX hK hH ck3 hs 1 4 (k + 4) fr3_1 rfl q1_59 dX3_doMove_23 ?_
  refine lv_iload_n hx hb dX3_doMove_26 rfl (lv_at hl 2 rfl) ?_
  obtain ⟨hp, hq⟩ := hq
  refine w_cIp hH (w_rV (As := [.int x1]) (rest := [.int (I2 k 7), .ref (G.1 k)]) hX hK hE hH (c_X1_notchesBy (sf3_1 hs) _ _ hp) ck1 (sf3_1 hs) q3_149 q3_150 q3_151 q1_4 q3_152 hd_X1_notchesBy ⟨Nat.le_of_ble_eq_true rfl, Nat.le_of_ble_eq_true rfl⟩ ⟨rfl, rfl⟩ rfl hl.1 rfl (Nat.le_of_ble_eq_true rfl) dX3_doMove_27 ⟨Nat.zero_le _, Nat.zero_le _⟩) (fun r3  H locs hpo hH => ?_)
  have hq := hq r3  hpo
  refine lv_iadd hx hb dX3_doMove_30 ?_
  refine lv_iconst (v := 5) hx hb dX3_doMove_31 (by decide) ?_
  obtain ⟨hp, hq⟩ := hq
  refine w_cIp hH (w_rS (As := [.int ((I2 k 7) + r3), .int (5 : Int32)]) (rest := [.ref (G.1 k)]) hX hK hE hH (c_J_floorMod  _ _ _ hp) q3_154 q3_155 q1_14 q3_156 hd_J_floorMod.2 ⟨Nat.le_of_ble_eq_true rfl, Nat.le_of_ble_eq_true rfl⟩ ⟨rfl, rfl⟩ rfl hl.1 rfl (Nat.le_of_ble_eq_true rfl) dX3_doMove_32 ⟨Nat.zero_le _, Nat.zero_le _⟩) (fun r4  H locs hpo hH => ?_)
  have hq := hq r4  hpo
  refine w_puti hX hK hH ck3 hs 7 fw3_7 q1_73 dX3_doMove_35 (fun I5 H locs hI hH => ?_)
  have hq := hq I5 hI
  refine lv_aload_n hx hb dX3_doMove_38 rfl (lv_at hl 1 rfl) ?_
  refine lv_dup hx hb dX3_doMove_39 rfl ?_
  refine w_geti hX hK hH ck3 hs 6 fi3_6 q1_71 dX3_doMove_40 ?_
  refine lv_iconst (v := 1) hx hb dX3_doMove_43 (by decide) ?_
  refine lv_iadd hx hb dX3_doMove_44 ?_
  refine w_puti hX hK hH ck3 hs 6 fw3_6 q1_71 dX3_doMove_45 (fun I6 H locs hI hH => ?_)
  have hq := hq I6 hI
  refine lv_iload_n hx hb dX3_doMove_48 rfl (lv_at hl 2 rfl) ?_
  obtain ⟨hp, hq⟩ := hq
  refine w_cIp hH (w_rSN (As := [.int x1]) (rest := []) hX hK hE hH (c_X5_keyOf  _ _ hp) qn2_209 q2_169 q1_1 q2_170 hd_X5_keyOf.2 ⟨Nat.le_of_ble_eq_true rfl, Nat.le_of_ble_eq_true rfl⟩ ⟨rfl, rfl⟩ rfl hl.1 rfl (Nat.le_of_ble_eq_true rfl) dX3_doMove_49 ⟨Nat.zero_le _, Nat.zero_le _⟩) (fun r7  H locs hpo hH => ?_)
  have hq := hq r7  hpo
  refine lv_istore_n (lv' := [(3, .int r7), (2, .int r1), (0, .ref (G.1 k)), (1, .int x1)]) hx hb dX3_doMove_52 rfl hl (by decide) rfl (fun ls hl => ?_)
  refine lv_iload_n hx hb dX3_doMove_53 rfl (lv_at hl 0 rfl) ?_
  refine lv_if_lt (tgt := 72) hx hb dX3_doMove_54 (by decide) (fun hc => ?_) (fun hc => ?_)
  · have hq := hq.1 hc
    exact s_X3_doMove_72 hs C0  r1 _ _ _ _ hq hH (lv_sub hl [2, 1] rfl)
  · have hq := hq.2 hc
    refine lv_iload_n hx hb dX3_doMove_57 rfl (lv_at hl 0 rfl) ?_
    refine lv_iconst (v := 5) hx hb dX3_doMove_58 (by decide) ?_
    refine lv_icmp_ge (tgt := 72) hx hb dX3_doMove_59 (by decide) (fun hc => ?_) (fun hc => ?_)
    · have hq := hq.1 hc
      exact s_X3_doMove_72 hs C0  r1 _ _ _ _ hq hH (lv_sub hl [2, 1] rfl)
    · have hq := hq.2 hc
      refine lv_aload_n hx hb dX3_doMove_62 rfl (lv_at hl 2 rfl) ?_
      refine w_getr hX hK hH ck3 hs 5 10 (k + 10) fr3_5 rfl q1_70 dX3_doMove_63 ?_
      refine lv_iload_n hx hb dX3_doMove_66 rfl (lv_at hl 0 rfl) ?_
      refine lv_dup2_11 hx hb dX3_doMove_67 rfl rfl ?_
      obtain ⟨hc, hq⟩ := hq
      refine w_iald hX hK hH (sf3_5 hs) hc dX3_doMove_68 ?_
      refine lv_iconst (v := 1) hx hb dX3_doMove_69 (by decide) ?_
      refine lv_iadd hx hb dX3_doMove_70 ?_
      obtain ⟨hc, hq⟩ := hq
      refine w_iast hX hK hH (sf3_5 hs) hc dX3_doMove_71 (fun I8 H locs hI hH => ?_)
      have hq := hq I8 hI
      exact s_X3_doMove_72 hs C0  r1 _ _ _ _ hq hH (lv_sub hl [2, 1] rfl)
abbrev rm_X5_turnOnce : Room := { frames := 9, cells := 0, slots := 0, locals := 140 }
theorem hd_X5_turnOnce : yX5_turnOnce.cls = RX5 ∧ yX5_turnOnce.cls ≠ "java/lang/invoke/MethodHandle" ∧ yX5_turnOnce.cls ≠ "java/lang/invoke/VarHandle" ∧ (parseMethodDescriptor yX5_turnOnce.desc).map (fun d => d.parameters.length) = some 2 := by decide +kernel
set_option maxRecDepth 100000 in
set_option maxHeartbeats 4000000 in
theorem c_X5_turnOnce {l : Launch} {D : va_G} {cs : wC4} {ad : Nat → Nat} {b : Nat} {G : wG} (x1 : Int32) (x2 : Int32) (I : wI) (hp : pre_X5_turnOnce x1 x2 I) : Met l yX5_turnOnce (ws_ yX5_turnOnce cX5_turnOnce 4 (some .int)) rm_X5_turnOnce (va_Pc [.ref (G.1 0), .int x1, .int x2] (wPr D cs ad b G I)) (va_Qi (fun r I' => post_X5_turnOnce x1 x2 I r I') (wPo D cs b G) (fun q => b ≤ q)) 0 0 (fun q => b ≤ q) := by
  have hq := vc_X5_turnOnce x1 x2 I hp
  refine w_met (by decide) (Nat.le_of_ble_eq_true rfl) ?_
  intro p e s m below meth c hX hr hlk hK hE hH ls hl
  have C0 : wCx p m c s _ meth cX5_turnOnce 4 RX5 (some .int) D cs ad b := ⟨hX, hr, hlk, hK, hE⟩
  have hX : CallFix p m c cX5_turnOnce 4 s _ lw_all RX5 := hX
  have hx := hX.1
  have hb := hX.2.1
  have hown := hX.2.2.2.1
  have hts := hX.2.2.2.2
  have hl : lv_has ls 4 [(0, .ref (G.1 0)), (1, .int x1), (2, .int x2)] := hl
  unfold v_X5_turnOnce at hq
  refine lv_iload_n hx hb dX5_turnOnce_0 rfl (lv_at hl 1 rfl) ?_
  obtain ⟨hp, hq⟩ := hq
  refine w_cVp hH (w_rS (As := [.int x1]) (rest := []) hX hK hE hH (c_X5_requireKey  _ _ hp) q2_141 q2_142 q1_1 q2_143 hd_X5_requireKey.2 ⟨Nat.le_of_ble_eq_true rfl, Nat.le_of_ble_eq_true rfl⟩ ⟨rfl, rfl⟩ rfl hl.1 rfl (Nat.le_of_ble_eq_true rfl) dX5_turnOnce_1 ⟨Nat.zero_le _, Nat.zero_le _⟩) (fun   H locs hpo hH => ?_)
  have hq := hq   hpo
  refine lv_iload_n hx hb dX5_turnOnce_4 rfl (lv_at hl 1 rfl) ?_
  refine lv_iload_n hx hb dX5_turnOnce_5 rfl (lv_at hl 2 rfl) ?_
  obtain ⟨hp, hq⟩ := hq
  refine w_cIp hH (w_rS (As := [.int x1, .int x2]) (rest := []) hX hK hE hH (c_X5_moveOf  _ _ _ hp) q2_161 q2_162 q1_1 q2_163 hd_X5_moveOf.2 ⟨Nat.le_of_ble_eq_true rfl, Nat.le_of_ble_eq_true rfl⟩ ⟨rfl, rfl⟩ rfl hl.1 rfl (Nat.le_of_ble_eq_true rfl) dX5_turnOnce_6 ⟨Nat.zero_le _, Nat.zero_le _⟩) (fun r1  H locs hpo hH => ?_)
  have hq := hq r1  hpo
  refine lv_istore_n (lv' := [(3, .int r1), (0, .ref (G.1 0)), (1, .int x1), (2, .int x2)]) hx hb dX5_turnOnce_9 rfl hl (by decide) rfl (fun ls hl => ?_)
  refine lv_aload_n hx hb dX5_turnOnce_10 rfl (lv_at hl 1 rfl) ?_
  refine w_getr hX hK hH ck5 sh0 0 1 1 fr5_0 rfl q1_172 dX5_turnOnce_11 ?_
  refine lv_iload_n hx hb dX5_turnOnce_14 rfl (lv_at hl 0 rfl) ?_
  obtain ⟨hp, hq⟩ := hq
  refine w_cIp hH (w_rV (As := [.int r1]) (rest := []) hX hK hE hH (c_X3_allows (sf5_0 sh0) _ _ hp) ck3 (sf5_0 sh0) q2_205 q2_206 q2_207 q1_2 q2_208 hd_X3_allows ⟨Nat.le_of_ble_eq_true rfl, Nat.le_of_ble_eq_true rfl⟩ ⟨rfl, rfl⟩ rfl hl.1 rfl (Nat.le_of_ble_eq_true rfl) dX5_turnOnce_15 ⟨Nat.zero_le _, Nat.zero_le _⟩) (fun r2  H locs hpo hH => ?_)
  have hq := hq r2  hpo
  refine lv_if_ne (tgt := 32) hx hb dX5_turnOnce_18 (by decide) (fun hc => ?_) (fun hc => ?_)
  · have hq := hq.1 hc
    refine lv_aload_n hx hb dX5_turnOnce_32 rfl (lv_at hl 1 rfl) ?_
    obtain ⟨hp, hq⟩ := hq
    refine w_cV hH (w_rV (As := []) (rest := []) hX hK hE hH (c_X5_save   _ hp) ck5 sh0 q2_60 q2_62 qs1 q1_1 q2_63 hd_X5_save ⟨Nat.le_of_ble_eq_true rfl, Nat.le_of_ble_eq_true rfl⟩ ⟨rfl, rfl⟩ rfl hl.1 rfl (Nat.le_of_ble_eq_true rfl) dX5_turnOnce_33 ⟨Nat.zero_le _, Nat.zero_le _⟩) (fun  I3 H locs hpo hH => ?_)
    have hq := hq  I3 hpo
    refine lv_aload_n hx hb dX5_turnOnce_36 rfl (lv_at hl 1 rfl) ?_
    refine w_getr hX hK hH ck5 sh0 0 1 1 fr5_0 rfl q1_172 dX5_turnOnce_37 ?_
    refine lv_iload_n hx hb dX5_turnOnce_40 rfl (lv_at hl 0 rfl) ?_
    obtain ⟨hp, hq⟩ := hq
    refine w_cV hH (w_rV (As := [.int r1]) (rest := []) hX hK hE hH (c_X3_doMove (sf5_0 sh0) _ _ hp) ck3 (sf5_0 sh0) q3_143 q3_144 q3_145 q1_2 q3_146 hd_X3_doMove ⟨Nat.le_of_ble_eq_true rfl, Nat.le_of_ble_eq_true rfl⟩ ⟨rfl, rfl⟩ rfl hl.1 rfl (Nat.le_of_ble_eq_true rfl) dX5_turnOnce_41 ⟨Nat.zero_le _, Nat.zero_le _⟩) (fun  I4 H locs hpo hH => ?_)
    have hq := hq  I4 hpo
    refine lv_aload_n hx hb dX5_turnOnce_44 rfl (lv_at hl 1 rfl) ?_
    refine w_getr hX hK hH ck5 sh0 0 1 1 fr5_0 rfl q1_172 dX5_turnOnce_45 ?_
    refine lv_aload_n hx hb dX5_turnOnce_48 rfl (lv_at hl 1 rfl) ?_
    refine w_getr hX hK hH ck5 sh0 0 1 1 fr5_0 rfl q1_172 dX5_turnOnce_49 ?_
    refine w_getrN hX hK hE hH ck3 (sf5_0 sh0) 0 1 2 fr3_0 rfl qn1_58 dX5_turnOnce_52 ?_
    obtain ⟨hp, hq⟩ := hq
    refine w_cIp hH (w_rV (As := [.ref (G.1 2)]) (rest := []) hX hK hE hH (c_X3_asInSecret (sf5_0 sh0) (sf3_0 (sf5_0 sh0))  _ hp) ck3 (sf5_0 sh0) q3_16 q3_9 q3_10 q1_2 q3_11 hd_X3_asInSecret ⟨Nat.le_of_ble_eq_true rfl, Nat.le_of_ble_eq_true rfl⟩ ⟨rfl, rfl⟩ rfl hl.1 rfl (Nat.le_of_ble_eq_true rfl) dX5_turnOnce_55 ⟨Nat.zero_le _, Nat.zero_le _⟩) (fun r5  H locs hpo hH => ?_)
    have hq := hq r5  hpo
    exact w_eI hX hr hlk hH hq dX5_turnOnce_58
  · have hq := hq.2 hc
    exact hq.elim
abbrev rm_X5_turnOncex : Room := { frames := 9, cells := 1, slots := 6, locals := 140 }

set_option maxRecDepth 100000 in
set_option maxHeartbeats 4000000 in
theorem c_X5_turnOncex {l : Launch} {D : va_G} {cs : wC4} {ad : Nat → Nat} {b : Nat} {G : wG} (hst : l.stackTraces = false) (x1 : Int32) (x2 : Int32) (I : wI) (hp : pre_X5_turnOncex x1 x2 I) : vx_Met l yX5_turnOnce (ws_ yX5_turnOnce cX5_turnOnce 4 (some .int)) rm_X5_turnOncex (va_Pc [.ref (G.1 0), .int x1, .int x2] (wPr D cs ad b G I)) (va_Qi (fun (_ : Int32) (_ : wI) => False) (wPo D cs b G) (fun q => b ≤ q)) (wXC D cs b G (exc_X5_turnOnce x1 x2 I)) 1 6 (fun q => b ≤ q) := by
  have hq := vc_X5_turnOncex x1 x2 I hp
  refine w_metx (by decide) (Nat.le_of_ble_eq_true rfl) ?_
  intro p e s m below meth c hX hr hlk hEx hK hE hH ls hl
  have C0 : wCx p m c s _ meth cX5_turnOnce 4 RX5 (some .int) D cs ad b := ⟨hX, hr, hlk, hK, hE⟩
  have hX : CallFix p m c cX5_turnOnce 4 s _ lw_all RX5 := hX
  have hx := hX.1
  have hb := hX.2.1
  have hown := hX.2.2.2.1
  have hts := hX.2.2.2.2
  have hl : lv_has ls 4 [(0, .ref (G.1 0)), (1, .int x1), (2, .int x2)] := hl
  unfold v_X5_turnOncex at hq
  refine lv_iload_n hx hb dX5_turnOnce_0 rfl (lv_at hl 1 rfl) ?_
  by_cases hok : ok_X5_requireKey x1 I
  · have hq := hq.1 hok
    obtain ⟨hp, hq⟩ := hq
    refine w_cVp hH (w_rS (As := [.int x1]) (rest := []) hX hK hE hH (c_X5_requireKey  _ _ hp) q2_141 q2_142 q1_1 q2_143 hd_X5_requireKey.2 ⟨Nat.le_of_ble_eq_true rfl, Nat.le_of_ble_eq_true rfl⟩ ⟨rfl, rfl⟩ rfl hl.1 rfl (Nat.le_of_ble_eq_true rfl) dX5_turnOnce_1 ⟨Nat.zero_le _, Nat.zero_le _⟩) (fun   H locs hpo hH => ?_)
    have hq := hq   hpo
    refine lv_iload_n hx hb dX5_turnOnce_4 rfl (lv_at hl 1 rfl) ?_
    refine lv_iload_n hx hb dX5_turnOnce_5 rfl (lv_at hl 2 rfl) ?_
    obtain ⟨hp, hq⟩ := hq
    refine w_cIp hH (w_rS (As := [.int x1, .int x2]) (rest := []) hX hK hE hH (c_X5_moveOf  _ _ _ hp) q2_161 q2_162 q1_1 q2_163 hd_X5_moveOf.2 ⟨Nat.le_of_ble_eq_true rfl, Nat.le_of_ble_eq_true rfl⟩ ⟨rfl, rfl⟩ rfl hl.1 rfl (Nat.le_of_ble_eq_true rfl) dX5_turnOnce_6 ⟨Nat.zero_le _, Nat.zero_le _⟩) (fun r1  H locs hpo hH => ?_)
    have hq := hq r1  hpo
    refine lv_istore_n (lv' := [(3, .int r1), (0, .ref (G.1 0)), (1, .int x1), (2, .int x2)]) hx hb dX5_turnOnce_9 rfl hl (by decide) rfl (fun ls hl => ?_)
    refine lv_aload_n hx hb dX5_turnOnce_10 rfl (lv_at hl 1 rfl) ?_
    refine w_getr hX hK hH ck5 sh0 0 1 1 fr5_0 rfl q1_172 dX5_turnOnce_11 ?_
    refine lv_iload_n hx hb dX5_turnOnce_14 rfl (lv_at hl 0 rfl) ?_
    obtain ⟨hp, hq⟩ := hq
    refine w_cIp hH (w_rV (As := [.int r1]) (rest := []) hX hK hE hH (c_X3_allows (sf5_0 sh0) _ _ hp) ck3 (sf5_0 sh0) q2_205 q2_206 q2_207 q1_2 q2_208 hd_X3_allows ⟨Nat.le_of_ble_eq_true rfl, Nat.le_of_ble_eq_true rfl⟩ ⟨rfl, rfl⟩ rfl hl.1 rfl (Nat.le_of_ble_eq_true rfl) dX5_turnOnce_15 ⟨Nat.zero_le _, Nat.zero_le _⟩) (fun r2  H locs hpo hH => ?_)
    have hq := hq r2  hpo
    refine lv_if_ne (tgt := 32) hx hb dX5_turnOnce_18 (by decide) (fun hc => ?_) (fun hc => ?_)
    · have hq := hq.1 hc
      refine lv_aload_n hx hb dX5_turnOnce_32 rfl (lv_at hl 1 rfl) ?_
      obtain ⟨hp, hq⟩ := hq
      refine w_cV hH (w_rV (As := []) (rest := []) hX hK hE hH (c_X5_save   _ hp) ck5 sh0 q2_60 q2_62 qs1 q1_1 q2_63 hd_X5_save ⟨Nat.le_of_ble_eq_true rfl, Nat.le_of_ble_eq_true rfl⟩ ⟨rfl, rfl⟩ rfl hl.1 rfl (Nat.le_of_ble_eq_true rfl) dX5_turnOnce_33 ⟨Nat.zero_le _, Nat.zero_le _⟩) (fun  I3 H locs hpo hH => ?_)
      have hq := hq  I3 hpo
      refine lv_aload_n hx hb dX5_turnOnce_36 rfl (lv_at hl 1 rfl) ?_
      refine w_getr hX hK hH ck5 sh0 0 1 1 fr5_0 rfl q1_172 dX5_turnOnce_37 ?_
      refine lv_iload_n hx hb dX5_turnOnce_40 rfl (lv_at hl 0 rfl) ?_
      obtain ⟨hp, hq⟩ := hq
      refine w_cV hH (w_rV (As := [.int r1]) (rest := []) hX hK hE hH (c_X3_doMove (sf5_0 sh0) _ _ hp) ck3 (sf5_0 sh0) q3_143 q3_144 q3_145 q1_2 q3_146 hd_X3_doMove ⟨Nat.le_of_ble_eq_true rfl, Nat.le_of_ble_eq_true rfl⟩ ⟨rfl, rfl⟩ rfl hl.1 rfl (Nat.le_of_ble_eq_true rfl) dX5_turnOnce_41 ⟨Nat.zero_le _, Nat.zero_le _⟩) (fun  I4 H locs hpo hH => ?_)
      have hq := hq  I4 hpo
      refine lv_aload_n hx hb dX5_turnOnce_44 rfl (lv_at hl 1 rfl) ?_
      refine w_getr hX hK hH ck5 sh0 0 1 1 fr5_0 rfl q1_172 dX5_turnOnce_45 ?_
      refine lv_aload_n hx hb dX5_turnOnce_48 rfl (lv_at hl 1 rfl) ?_
      refine w_getr hX hK hH ck5 sh0 0 1 1 fr5_0 rfl q1_172 dX5_turnOnce_49 ?_
      refine w_getrN hX hK hE hH ck3 (sf5_0 sh0) 0 1 2 fr3_0 rfl qn1_58 dX5_turnOnce_52 ?_
      obtain ⟨hp, hq⟩ := hq
      refine w_cIp hH (w_rV (As := [.ref (G.1 2)]) (rest := []) hX hK hE hH (c_X3_asInSecret (sf5_0 sh0) (sf3_0 (sf5_0 sh0))  _ hp) ck3 (sf5_0 sh0) q3_16 q3_9 q3_10 q1_2 q3_11 hd_X3_asInSecret ⟨Nat.le_of_ble_eq_true rfl, Nat.le_of_ble_eq_true rfl⟩ ⟨rfl, rfl⟩ rfl hl.1 rfl (Nat.le_of_ble_eq_true rfl) dX5_turnOnce_55 ⟨Nat.zero_le _, Nat.zero_le _⟩) (fun r5  H locs hpo hH => ?_)
      have hq := hq r5  hpo
      exact hq.elim
    · have hq := hq.2 hc
      exact w_throwW th_X5_76_309_80 hX hst hlk hEx hE hH hl.1 dX5_turnOnce_21 dX5_turnOnce_24 dX5_turnOnce_25 dX5_turnOnce_28 dX5_turnOnce_31 ⟨Nat.le_of_ble_eq_true rfl, Nat.le_of_ble_eq_true rfl, Nat.le_of_ble_eq_true rfl, Nat.le_of_ble_eq_true rfl⟩ hq
  · have hq := hq.2 hok
    obtain ⟨hp, hq⟩ := hq
    exact w_xV hEx hlk hH (w_xrS (As := [.int x1]) (rest := []) hX hK hE hH (c_X5_requireKeyx hst  _ _ hp) q2_141 q2_142 q1_1 q2_143 hd_X5_requireKey.2 ⟨Nat.le_of_ble_eq_true rfl, Nat.le_of_ble_eq_true rfl⟩ ⟨rfl, rfl⟩ rfl hl.1 rfl (Nat.le_of_ble_eq_true rfl) dX5_turnOnce_1 ⟨Nat.le_of_ble_eq_true rfl, Nat.le_of_ble_eq_true rfl⟩) (fun E u h => by obtain ⟨h1, h2⟩ := h; subst h1; exact hq E h2)
abbrev rm_X5_turn : Room := { frames := 10, cells := 0, slots := 0, locals := 163 }
theorem hd_X5_turn : yX5_turn.cls = RX5 ∧ yX5_turn.cls ≠ "java/lang/invoke/MethodHandle" ∧ yX5_turn.cls ≠ "java/lang/invoke/VarHandle" ∧ (parseMethodDescriptor yX5_turn.desc).map (fun d => d.parameters.length) = some 1 := by decide +kernel
set_option maxRecDepth 100000 in
set_option maxHeartbeats 4000000 in
theorem c_X5_turn {l : Launch} {D : va_G} {cs : wC4} {ad : Nat → Nat} {b : Nat} {G : wG} (x1 : Int32) (I : wI) (hp : pre_X5_turn x1 I) : Met l yX5_turn (ws_ yX5_turn cX5_turn 2 (some .int)) rm_X5_turn (va_Pc [.ref (G.1 0), .int x1] (wPr D cs ad b G I)) (va_Qi (fun r I' => post_X5_turn x1 I r I') (wPo D cs b G) (fun q => b ≤ q)) 0 0 (fun q => b ≤ q) := by
  have hq := vc_X5_turn x1 I hp
  refine w_met (by decide) (Nat.le_of_ble_eq_true rfl) ?_
  intro p e s m below meth c hX hr hlk hK hE hH ls hl
  have C0 : wCx p m c s _ meth cX5_turn 2 RX5 (some .int) D cs ad b := ⟨hX, hr, hlk, hK, hE⟩
  have hX : CallFix p m c cX5_turn 2 s _ lw_all RX5 := hX
  have hx := hX.1
  have hb := hX.2.1
  have hown := hX.2.2.2.1
  have hts := hX.2.2.2.2
  have hl : lv_has ls 2 [(0, .ref (G.1 0)), (1, .int x1)] := hl
  unfold v_X5_turn at hq
  refine lv_aload_n hx hb dX5_turn_0 rfl (lv_at hl 0 rfl) ?_
  refine lv_iload_n hx hb dX5_turn_1 rfl (lv_at hl 1 rfl) ?_
  refine lv_iconst (v := 0) hx hb dX5_turn_2 (by decide) ?_
  obtain ⟨hp, hq⟩ := hq
  refine w_cI hH (w_rV (As := [.int x1, .int (0 : Int32)]) (rest := []) hX hK hE hH (c_X5_turnOnce  _ _ _ hp) ck5 sh0 q3_138 q3_140 qs14 q1_1 q3_141 hd_X5_turnOnce ⟨Nat.le_of_ble_eq_true rfl, Nat.le_of_ble_eq_true rfl⟩ ⟨rfl, rfl⟩ rfl hl.1 rfl (Nat.le_of_ble_eq_true rfl) dX5_turn_3 ⟨Nat.zero_le _, Nat.zero_le _⟩) (fun r1 I2 H locs hpo hH => ?_)
  have hq := hq r1 I2 hpo
  exact w_eI hX hr hlk hH hq dX5_turn_6
abbrev rm_X5_turnx : Room := { frames := 10, cells := 1, slots := 6, locals := 163 }

set_option maxRecDepth 100000 in
set_option maxHeartbeats 4000000 in
theorem c_X5_turnx {l : Launch} {D : va_G} {cs : wC4} {ad : Nat → Nat} {b : Nat} {G : wG} (hst : l.stackTraces = false) (x1 : Int32) (I : wI) (hp : pre_X5_turnx x1 I) : vx_Met l yX5_turn (ws_ yX5_turn cX5_turn 2 (some .int)) rm_X5_turnx (va_Pc [.ref (G.1 0), .int x1] (wPr D cs ad b G I)) (va_Qi (fun (_ : Int32) (_ : wI) => False) (wPo D cs b G) (fun q => b ≤ q)) (wXC D cs b G (exc_X5_turn x1 I)) 1 6 (fun q => b ≤ q) := by
  have hq := vc_X5_turnx x1 I hp
  refine w_metx (by decide) (Nat.le_of_ble_eq_true rfl) ?_
  intro p e s m below meth c hX hr hlk hEx hK hE hH ls hl
  have C0 : wCx p m c s _ meth cX5_turn 2 RX5 (some .int) D cs ad b := ⟨hX, hr, hlk, hK, hE⟩
  have hX : CallFix p m c cX5_turn 2 s _ lw_all RX5 := hX
  have hx := hX.1
  have hb := hX.2.1
  have hown := hX.2.2.2.1
  have hts := hX.2.2.2.2
  have hl : lv_has ls 2 [(0, .ref (G.1 0)), (1, .int x1)] := hl
  unfold v_X5_turnx at hq
  refine lv_aload_n hx hb dX5_turn_0 rfl (lv_at hl 0 rfl) ?_
  refine lv_iload_n hx hb dX5_turn_1 rfl (lv_at hl 1 rfl) ?_
  refine lv_iconst (v := 0) hx hb dX5_turn_2 (by decide) ?_
  by_cases hok : ok_X5_turnOnce x1 (0 : Int32) I
  · have hq := hq.1 hok
    obtain ⟨hp, hq⟩ := hq
    refine w_cI hH (w_rV (As := [.int x1, .int (0 : Int32)]) (rest := []) hX hK hE hH (c_X5_turnOnce  _ _ _ hp) ck5 sh0 q3_138 q3_140 qs14 q1_1 q3_141 hd_X5_turnOnce ⟨Nat.le_of_ble_eq_true rfl, Nat.le_of_ble_eq_true rfl⟩ ⟨rfl, rfl⟩ rfl hl.1 rfl (Nat.le_of_ble_eq_true rfl) dX5_turn_3 ⟨Nat.zero_le _, Nat.zero_le _⟩) (fun r3 I4 H locs hpo hH => ?_)
    have hq := hq r3 I4 hpo
    exact hq.elim
  · have hq := hq.2 hok
    obtain ⟨hp, hq⟩ := hq
    exact w_xI hEx hlk hH (w_xrV (As := [.int x1, .int (0 : Int32)]) (rest := []) hX hK hE hH (c_X5_turnOncex hst  _ _ _ hp) ck5 sh0 q3_138 q3_140 qs14 q1_1 q3_141 hd_X5_turnOnce ⟨Nat.le_of_ble_eq_true rfl, Nat.le_of_ble_eq_true rfl⟩ ⟨rfl, rfl⟩ rfl hl.1 rfl (Nat.le_of_ble_eq_true rfl) dX5_turn_3 ⟨Nat.le_of_ble_eq_true rfl, Nat.le_of_ble_eq_true rfl⟩) (fun E u h => hq E u h)
abbrev rm_X5_back : Room := { frames := 10, cells := 0, slots := 0, locals := 163 }
theorem hd_X5_back : yX5_back.cls = RX5 ∧ yX5_back.cls ≠ "java/lang/invoke/MethodHandle" ∧ yX5_back.cls ≠ "java/lang/invoke/VarHandle" ∧ (parseMethodDescriptor yX5_back.desc).map (fun d => d.parameters.length) = some 1 := by decide +kernel
set_option maxRecDepth 100000 in
set_option maxHeartbeats 4000000 in
theorem c_X5_back {l : Launch} {D : va_G} {cs : wC4} {ad : Nat → Nat} {b : Nat} {G : wG} (x1 : Int32) (I : wI) (hp : pre_X5_back x1 I) : Met l yX5_back (ws_ yX5_back cX5_back 2 (some .int)) rm_X5_back (va_Pc [.ref (G.1 0), .int x1] (wPr D cs ad b G I)) (va_Qi (fun r I' => post_X5_back x1 I r I') (wPo D cs b G) (fun q => b ≤ q)) 0 0 (fun q => b ≤ q) := by
  have hq := vc_X5_back x1 I hp
  refine w_met (by decide) (Nat.le_of_ble_eq_true rfl) ?_
  intro p e s m below meth c hX hr hlk hK hE hH ls hl
  have C0 : wCx p m c s _ meth cX5_back 2 RX5 (some .int) D cs ad b := ⟨hX, hr, hlk, hK, hE⟩
  have hX : CallFix p m c cX5_back 2 s _ lw_all RX5 := hX
  have hx := hX.1
  have hb := hX.2.1
  have hown := hX.2.2.2.1
  have hts := hX.2.2.2.2
  have hl : lv_has ls 2 [(0, .ref (G.1 0)), (1, .int x1)] := hl
  unfold v_X5_back at hq
  refine lv_aload_n hx hb dX5_back_0 rfl (lv_at hl 0 rfl) ?_
  refine lv_iload_n hx hb dX5_back_1 rfl (lv_at hl 1 rfl) ?_
  refine lv_iconst (v := 1) hx hb dX5_back_2 (by decide) ?_
  obtain ⟨hp, hq⟩ := hq
  refine w_cI hH (w_rV (As := [.int x1, .int (1 : Int32)]) (rest := []) hX hK hE hH (c_X5_turnOnce  _ _ _ hp) ck5 sh0 q3_138 q3_140 qs14 q1_1 q3_141 hd_X5_turnOnce ⟨Nat.le_of_ble_eq_true rfl, Nat.le_of_ble_eq_true rfl⟩ ⟨rfl, rfl⟩ rfl hl.1 rfl (Nat.le_of_ble_eq_true rfl) dX5_back_3 ⟨Nat.zero_le _, Nat.zero_le _⟩) (fun r1 I2 H locs hpo hH => ?_)
  have hq := hq r1 I2 hpo
  exact w_eI hX hr hlk hH hq dX5_back_6
abbrev rm_X5_backx : Room := { frames := 10, cells := 1, slots := 6, locals := 163 }

set_option maxRecDepth 100000 in
set_option maxHeartbeats 4000000 in
theorem c_X5_backx {l : Launch} {D : va_G} {cs : wC4} {ad : Nat → Nat} {b : Nat} {G : wG} (hst : l.stackTraces = false) (x1 : Int32) (I : wI) (hp : pre_X5_backx x1 I) : vx_Met l yX5_back (ws_ yX5_back cX5_back 2 (some .int)) rm_X5_backx (va_Pc [.ref (G.1 0), .int x1] (wPr D cs ad b G I)) (va_Qi (fun (_ : Int32) (_ : wI) => False) (wPo D cs b G) (fun q => b ≤ q)) (wXC D cs b G (exc_X5_back x1 I)) 1 6 (fun q => b ≤ q) := by
  have hq := vc_X5_backx x1 I hp
  refine w_metx (by decide) (Nat.le_of_ble_eq_true rfl) ?_
  intro p e s m below meth c hX hr hlk hEx hK hE hH ls hl
  have C0 : wCx p m c s _ meth cX5_back 2 RX5 (some .int) D cs ad b := ⟨hX, hr, hlk, hK, hE⟩
  have hX : CallFix p m c cX5_back 2 s _ lw_all RX5 := hX
  have hx := hX.1
  have hb := hX.2.1
  have hown := hX.2.2.2.1
  have hts := hX.2.2.2.2
  have hl : lv_has ls 2 [(0, .ref (G.1 0)), (1, .int x1)] := hl
  unfold v_X5_backx at hq
  refine lv_aload_n hx hb dX5_back_0 rfl (lv_at hl 0 rfl) ?_
  refine lv_iload_n hx hb dX5_back_1 rfl (lv_at hl 1 rfl) ?_
  refine lv_iconst (v := 1) hx hb dX5_back_2 (by decide) ?_
  by_cases hok : ok_X5_turnOnce x1 (1 : Int32) I
  · have hq := hq.1 hok
    obtain ⟨hp, hq⟩ := hq
    refine w_cI hH (w_rV (As := [.int x1, .int (1 : Int32)]) (rest := []) hX hK hE hH (c_X5_turnOnce  _ _ _ hp) ck5 sh0 q3_138 q3_140 qs14 q1_1 q3_141 hd_X5_turnOnce ⟨Nat.le_of_ble_eq_true rfl, Nat.le_of_ble_eq_true rfl⟩ ⟨rfl, rfl⟩ rfl hl.1 rfl (Nat.le_of_ble_eq_true rfl) dX5_back_3 ⟨Nat.zero_le _, Nat.zero_le _⟩) (fun r3 I4 H locs hpo hH => ?_)
    have hq := hq r3 I4 hpo
    exact hq.elim
  · have hq := hq.2 hok
    obtain ⟨hp, hq⟩ := hq
    exact w_xI hEx hlk hH (w_xrV (As := [.int x1, .int (1 : Int32)]) (rest := []) hX hK hE hH (c_X5_turnOncex hst  _ _ _ hp) ck5 sh0 q3_138 q3_140 qs14 q1_1 q3_141 hd_X5_turnOnce ⟨Nat.le_of_ble_eq_true rfl, Nat.le_of_ble_eq_true rfl⟩ ⟨rfl, rfl⟩ rfl hl.1 rfl (Nat.le_of_ble_eq_true rfl) dX5_back_3 ⟨Nat.le_of_ble_eq_true rfl, Nat.le_of_ble_eq_true rfl⟩) (fun E u h => hq E u h)
abbrev rm_X0_reach : Room := { frames := 0, cells := 0, slots := 0, locals := 0 }
theorem hd_X0_reach : yX0_reach.cls = RX0 ∧ yX0_reach.cls ≠ "java/lang/invoke/MethodHandle" ∧ yX0_reach.cls ≠ "java/lang/invoke/VarHandle" ∧ (parseMethodDescriptor yX0_reach.desc).map (fun d => d.parameters.length) = some 0 := by decide +kernel
set_option maxRecDepth 100000 in
set_option maxHeartbeats 4000000 in
theorem s_X0_reach_35 {k : Nat} {I : wI} {Q : Int32 → Prop} {K4 : Int32 → Int32 → Prop} (hs : wSh k = (0, 0)) (C0 : wCx p m c s args meth cX0_reach 3 RX0 (some .int) D cs ad b) (hK4 : ∀ (v1 : Int32) (v2 : Int32) (H : Heap) (locs : List Loc) (ls : Array Slot), K4 v1 v2 → wH D cs b G I s H locs → lv_has ls 3 [(0, .ref (G.1 k)), (1, .int v1), (2, .int v2)] → W p l e rm_X0_reach s m args below meth c H locs 0 0 (MQ below (va_Qi (fun r I' => I' = I ∧ Q r) (wPo D cs b G) (fun q => b ≤ q)) args s 0 0 (fun q => b ≤ q)) (F0 m 4 ls [])) : ∀ (v1 : Int32) (v2 : Int32) (H : Heap) (locs : List Loc) (ls : Array Slot), v_X0_reach_35 k I Q K4 v1 v2 → wH D cs b G I s H locs → lv_has ls 3 [(0, .ref (G.1 k)), (1, .int v1), (2, .int v2)] → W p l e rm_X0_reach s m args below meth c H locs 0 0 (MQ below (va_Qi (fun r I' => I' = I ∧ Q r) (wPo D cs b G) (fun q => b ≤ q)) args s 0 0 (fun q => b ≤ q)) (F0 m 35 ls []) := by
  obtain ⟨hX, hr, hlk, hK, hE⟩ := id C0
  have hx := hX.1
  have hb := hX.2.1
  have hown := hX.2.2.2.1
  have hts := hX.2.2.2.2
  intro v1 v2 H locs ls hq hH hl
  unfold v_X0_reach_35 at hq
  refine lv_iinc (v := (v2 + (1 : Int32))) (lv' := [(2, .int (v2 + (1 : Int32))), (0, .ref (G.1 k)), (1, .int v1)]) hx hb dX0_reach_35 hl (k := 2) rfl rfl (by decide) rfl (fun ls hl => ?_)
  refine lv_goto (tgt := 4) hx hb dX0_reach_38 (by decide) ?_
  exact hK4 v1 (v2 + (1 : Int32)) _ _ _ hq hH (lv_sub hl [1, 2, 0] rfl)
set_option maxRecDepth 100000 in
set_option maxHeartbeats 4000000 in
theorem s_X0_reach_29 {k : Nat} {I : wI} {Q : Int32 → Prop} {K4 : Int32 → Int32 → Prop} (hs : wSh k = (0, 0)) (C0 : wCx p m c s args meth cX0_reach 3 RX0 (some .int) D cs ad b) (hK4 : ∀ (v1 : Int32) (v2 : Int32) (H : Heap) (locs : List Loc) (ls : Array Slot), K4 v1 v2 → wH D cs b G I s H locs → lv_has ls 3 [(0, .ref (G.1 k)), (1, .int v1), (2, .int v2)] → W p l e rm_X0_reach s m args below meth c H locs 0 0 (MQ below (va_Qi (fun r I' => I' = I ∧ Q r) (wPo D cs b G) (fun q => b ≤ q)) args s 0 0 (fun q => b ≤ q)) (F0 m 4 ls [])) : ∀ (v1 : Int32) (v2 : Int32) (H : Heap) (locs : List Loc) (ls : Array Slot), v_X0_reach_29 k I Q K4 v1 v2 → wH D cs b G I s H locs → lv_has ls 3 [(0, .ref (G.1 k)), (1, .int v1), (2, .int v2)] → W p l e rm_X0_reach s m args below meth c H locs 0 0 (MQ below (va_Qi (fun r I' => I' = I ∧ Q r) (wPo D cs b G) (fun q => b ≤ q)) args s 0 0 (fun q => b ≤ q)) (F0 m 29 ls []) := by
  obtain ⟨hX, hr, hlk, hK, hE⟩ := id C0
  have hx := hX.1
  have hb := hX.2.1
  have hown := hX.2.2.2.1
  have hts := hX.2.2.2.2
  intro v1 v2 H locs ls hq hH hl
  unfold v_X0_reach_29 at hq
  refine lv_iload_n hx hb dX0_reach_29 rfl (lv_at hl 1 rfl) ?_
  refine lv_iconst (v := 1) hx hb dX0_reach_30 (by decide) ?_
  refine lv_iload_n hx hb dX0_reach_31 rfl (lv_at hl 2 rfl) ?_
  refine lv_ishl hx hb dX0_reach_32 ?_
  refine lv_ior hx hb dX0_reach_33 ?_
  refine lv_istore_n (lv' := [(1, .int (v1 ||| ((1 : Int32) <<< (v2 &&& 31)))), (0, .ref (G.1 k)), (2, .int v2)]) hx hb dX0_reach_34 rfl hl (by decide) rfl (fun ls hl => ?_)
  exact s_X0_reach_35 hs C0 hK4 (v1 ||| ((1 : Int32) <<< (v2 &&& 31))) v2 _ _ _ hq hH (lv_sub hl [1, 0, 2] rfl)
set_option maxRecDepth 100000 in
set_option maxHeartbeats 4000000 in
theorem s_X0_reach_4 {k : Nat} {I : wI} {Q : Int32 → Prop} (hs : wSh k = (0, 0)) (C0 : wCx p m c s args meth cX0_reach 3 RX0 (some .int) D cs ad b) : ∀ (f : Nat) (v1 : Int32) (v2 : Int32) (H : Heap) (locs : List Loc) (ls : Array Slot), v_X0_reach_4 k I Q f v1 v2 → wH D cs b G I s H locs → lv_has ls 3 [(0, .ref (G.1 k)), (1, .int v1), (2, .int v2)] → W p l e rm_X0_reach s m args below meth c H locs 0 0 (MQ below (va_Qi (fun r I' => I' = I ∧ Q r) (wPo D cs b G) (fun q => b ≤ q)) args s 0 0 (fun q => b ≤ q)) (F0 m 4 ls []) := by
  obtain ⟨hX, hr, hlk, hK, hE⟩ := id C0
  have hx := hX.1
  have hb := hX.2.1
  have hown := hX.2.2.2.1
  have hts := hX.2.2.2.2
  intro f
  induction f with
  | zero =>
    intro v1 v2 H locs ls hq
    exact hq.elim
  | succ f hK4 =>
    intro v1 v2 H locs ls hq hH hl
    have hq : g_X0_reach_4 k I Q (v_X0_reach_4 k I Q f) v1 v2 := hq
    unfold g_X0_reach_4 at hq
    refine lv_iload_n hx hb dX0_reach_4 rfl (lv_at hl 2 rfl) ?_
    refine lv_bipush (v := 6) hx hb dX0_reach_5 (by decide) ?_
    refine lv_icmp_ge (tgt := 41) hx hb dX0_reach_7 (by decide) (fun hc => ?_) (fun hc => ?_)
    · have hq := hq.1 hc
      refine lv_iload_n hx hb dX0_reach_41 rfl (lv_at hl 1 rfl) ?_
      exact w_eI hX hr hlk hH ⟨rfl, hq⟩ dX0_reach_42
    · have hq := hq.2 hc
      refine lv_aload_n hx hb dX0_reach_10 rfl (lv_at hl 0 rfl) ?_
      refine w_getr hX hK hH ck0 hs 0 1 (k + 1) fr0_0 rfl q1_35 dX0_reach_11 ?_
      refine lv_iload_n hx hb dX0_reach_14 rfl (lv_at hl 2 rfl) ?_
      obtain ⟨hc, hq⟩ := hq
      refine w_iald hX hK hH (sf0_0 hs) hc dX0_reach_15 ?_
      refine lv_iload_n hx hb dX0_reach_16 rfl (lv_at hl 2 rfl) ?_
      refine lv_icmp_ne (tgt := 29) hx hb dX0_reach_17 (by decide) (fun hc => ?_) (fun hc => ?_)
      · have hq := hq.1 hc
        exact s_X0_reach_29 hs C0 hK4 v1 v2 _ _ _ hq hH (lv_sub hl [0, 1, 2] rfl)
      · have hq := hq.2 hc
        refine lv_aload_n hx hb dX0_reach_20 rfl (lv_at hl 0 rfl) ?_
        refine w_getr hX hK hH ck0 hs 1 2 (k + 2) fr0_1 rfl q1_36 dX0_reach_21 ?_
        refine lv_iload_n hx hb dX0_reach_24 rfl (lv_at hl 2 rfl) ?_
        obtain ⟨hc, hq⟩ := hq
        refine w_iald hX hK hH (sf0_1 hs) hc dX0_reach_25 ?_
        refine lv_if_eq (tgt := 35) hx hb dX0_reach_26 (by decide) (fun hc => ?_) (fun hc => ?_)
        · have hq := hq.1 hc
          exact s_X0_reach_35 hs C0 hK4 v1 v2 _ _ _ hq hH (lv_sub hl [0, 1, 2] rfl)
        · have hq := hq.2 hc
          exact s_X0_reach_29 hs C0 hK4 v1 v2 _ _ _ hq hH (lv_sub hl [0, 1, 2] rfl)
set_option maxRecDepth 100000 in
set_option maxHeartbeats 4000000 in
theorem c_X0_reach {l : Launch} {D : va_G} {cs : wC4} {ad : Nat → Nat} {b : Nat} {G : wG} {k : Nat} (hs : wSh k = (0, 0))  (I : wI) (hp : pre_X0_reach k I) : Met l yX0_reach (ws_ yX0_reach cX0_reach 3 (some .int)) rm_X0_reach (va_Pc [.ref (G.1 k)] (wPr D cs ad b G I)) (va_Qi (fun r I' => I' = I ∧ post_X0_reach k I r) (wPo D cs b G) (fun q => b ≤ q)) 0 0 (fun q => b ≤ q) := by
  have hq := vc_X0_reach k I hp
  refine w_met (by decide) (Nat.le_of_ble_eq_true rfl) ?_
  intro p e s m below meth c hX hr hlk hK hE hH ls hl
  have C0 : wCx p m c s _ meth cX0_reach 3 RX0 (some .int) D cs ad b := ⟨hX, hr, hlk, hK, hE⟩
  have hX : CallFix p m c cX0_reach 3 s _ lw_all RX0 := hX
  have hx := hX.1
  have hb := hX.2.1
  have hown := hX.2.2.2.1
  have hts := hX.2.2.2.2
  have hl : lv_has ls 3 [(0, .ref (G.1 k))] := hl
  unfold v_X0_reach at hq
  refine lv_iconst (v := 0) hx hb dX0_reach_0 (by decide) ?_
  refine lv_istore_n (lv' := [(1, .int (0 : Int32)), (0, .ref (G.1 k))]) hx hb dX0_reach_1 rfl hl (by decide) rfl (fun ls hl => ?_)
  refine lv_iconst (v := 0) hx hb dX0_reach_2 (by decide) ?_
  refine lv_istore_n (lv' := [(2, .int (0 : Int32)), (1, .int (0 : Int32)), (0, .ref (G.1 k))]) hx hb dX0_reach_3 rfl hl (by decide) rfl (fun ls hl => ?_)
  obtain ⟨f, hq⟩ := hq
  exact s_X0_reach_4 hs C0  f (0 : Int32) (0 : Int32) _ _ _ hq hH (lv_sub hl [2, 1, 0] rfl)
abbrev rm_X0_bringHome : Room := { frames := 0, cells := 0, slots := 0, locals := 0 }
theorem hd_X0_bringHome : yX0_bringHome.cls = RX0 ∧ yX0_bringHome.cls ≠ "java/lang/invoke/MethodHandle" ∧ yX0_bringHome.cls ≠ "java/lang/invoke/VarHandle" ∧ (parseMethodDescriptor yX0_bringHome.desc).map (fun d => d.parameters.length) = some 0 := by decide +kernel
set_option maxRecDepth 100000 in
set_option maxHeartbeats 4000000 in
theorem s_X0_bringHome_2 {k : Nat} {Q : wI → Prop} (hs : wSh k = (0, 0)) (C0 : wCx p m c s args meth cX0_bringHome 2 RX0 none D cs ad b) : ∀ (f : Nat) (v1 : Int32) (I : wI) (H : Heap) (locs : List Loc) (ls : Array Slot), v_X0_bringHome_2 k Q f v1 I → wH D cs b G I s H locs → lv_has ls 2 [(0, .ref (G.1 k)), (1, .int v1)] → W p l e rm_X0_bringHome s m args below meth c H locs 0 0 (MQ below (va_Qv (Q) (wPo D cs b G) (fun q => b ≤ q)) args s 0 0 (fun q => b ≤ q)) (F0 m 2 ls []) := by
  obtain ⟨hX, hr, hlk, hK, hE⟩ := id C0
  have hx := hX.1
  have hb := hX.2.1
  have hown := hX.2.2.2.1
  have hts := hX.2.2.2.2
  intro f
  induction f with
  | zero =>
    intro v1 I H locs ls hq
    exact hq.elim
  | succ f hK2 =>
    intro v1 I H locs ls hq hH hl
    have hq : g_X0_bringHome_2 k Q (v_X0_bringHome_2 k Q f) v1 I := hq
    unfold g_X0_bringHome_2 at hq
    refine lv_iload_n hx hb dX0_bringHome_2 rfl (lv_at hl 1 rfl) ?_
    refine lv_bipush (v := 6) hx hb dX0_bringHome_3 (by decide) ?_
    refine lv_icmp_ge (tgt := 28) hx hb dX0_bringHome_5 (by decide) (fun hc => ?_) (fun hc => ?_)
    · have hq := hq.1 hc
      exact w_eV hX hr hlk hH hq dX0_bringHome_28
    · have hq := hq.2 hc
      refine lv_aload_n hx hb dX0_bringHome_8 rfl (lv_at hl 0 rfl) ?_
      refine w_getr hX hK hH ck0 hs 0 1 (k + 1) fr0_0 rfl q1_35 dX0_bringHome_9 ?_
      refine lv_iload_n hx hb dX0_bringHome_12 rfl (lv_at hl 1 rfl) ?_
      refine lv_iload_n hx hb dX0_bringHome_13 rfl (lv_at hl 1 rfl) ?_
      obtain ⟨hc, hq⟩ := hq
      refine w_iast hX hK hH (sf0_0 hs) hc dX0_bringHome_14 (fun I1 H locs hI hH => ?_)
      have hq := hq I1 hI
      refine lv_aload_n hx hb dX0_bringHome_15 rfl (lv_at hl 0 rfl) ?_
      refine w_getr hX hK hH ck0 hs 1 2 (k + 2) fr0_1 rfl q1_36 dX0_bringHome_16 ?_
      refine lv_iload_n hx hb dX0_bringHome_19 rfl (lv_at hl 1 rfl) ?_
      refine lv_iconst (v := 0) hx hb dX0_bringHome_20 (by decide) ?_
      obtain ⟨hc, hq⟩ := hq
      refine w_iast hX hK hH (sf0_1 hs) hc dX0_bringHome_21 (fun I2 H locs hI hH => ?_)
      have hq := hq I2 hI
      refine lv_iinc (v := (v1 + (1 : Int32))) (lv' := [(1, .int (v1 + (1 : Int32))), (0, .ref (G.1 k))]) hx hb dX0_bringHome_22 hl (k := 1) rfl rfl (by decide) rfl (fun ls hl => ?_)
      refine lv_goto (tgt := 2) hx hb dX0_bringHome_25 (by decide) ?_
      exact hK2 (v1 + (1 : Int32)) _ _ _ _ hq hH (lv_sub hl [1, 0] rfl)
set_option maxRecDepth 100000 in
set_option maxHeartbeats 4000000 in
theorem c_X0_bringHome {l : Launch} {D : va_G} {cs : wC4} {ad : Nat → Nat} {b : Nat} {G : wG} {k : Nat} (hs : wSh k = (0, 0))  (I : wI) (hp : pre_X0_bringHome k I) : Met l yX0_bringHome (ws_ yX0_bringHome cX0_bringHome 2 none) rm_X0_bringHome (va_Pc [.ref (G.1 k)] (wPr D cs ad b G I)) (va_Qv (fun I' => post_X0_bringHome k I I') (wPo D cs b G) (fun q => b ≤ q)) 0 0 (fun q => b ≤ q) := by
  have hq := vc_X0_bringHome k I hp
  refine w_met (by decide) (Nat.le_of_ble_eq_true rfl) ?_
  intro p e s m below meth c hX hr hlk hK hE hH ls hl
  have C0 : wCx p m c s _ meth cX0_bringHome 2 RX0 none D cs ad b := ⟨hX, hr, hlk, hK, hE⟩
  have hX : CallFix p m c cX0_bringHome 2 s _ lw_all RX0 := hX
  have hx := hX.1
  have hb := hX.2.1
  have hown := hX.2.2.2.1
  have hts := hX.2.2.2.2
  have hl : lv_has ls 2 [(0, .ref (G.1 k))] := hl
  unfold v_X0_bringHome at hq
  refine lv_iconst (v := 0) hx hb dX0_bringHome_0 (by decide) ?_
  refine lv_istore_n (lv' := [(1, .int (0 : Int32)), (0, .ref (G.1 k))]) hx hb dX0_bringHome_1 rfl hl (by decide) rfl (fun ls hl => ?_)
  obtain ⟨f, hq⟩ := hq
  exact s_X0_bringHome_2 hs C0  f (0 : Int32) _ _ _ _ hq hH (lv_sub hl [1, 0] rfl)
abbrev rm_X5_home : Room := { frames := 4, cells := 0, slots := 0, locals := 85 }
theorem hd_X5_home : yX5_home.cls = RX5 ∧ yX5_home.cls ≠ "java/lang/invoke/MethodHandle" ∧ yX5_home.cls ≠ "java/lang/invoke/VarHandle" ∧ (parseMethodDescriptor yX5_home.desc).map (fun d => d.parameters.length) = some 0 := by decide +kernel
set_option maxRecDepth 100000 in
set_option maxHeartbeats 4000000 in
theorem c_X5_home {l : Launch} {D : va_G} {cs : wC4} {ad : Nat → Nat} {b : Nat} {G : wG}  (I : wI) (hp : pre_X5_home  I) : Met l yX5_home (ws_ yX5_home cX5_home 2 (some .int)) rm_X5_home (va_Pc [.ref (G.1 0)] (wPr D cs ad b G I)) (va_Qi (fun r I' => post_X5_home  I r I') (wPo D cs b G) (fun q => b ≤ q)) 0 0 (fun q => b ≤ q) := by
  have hq := vc_X5_home  I hp
  refine w_met (by decide) (Nat.le_of_ble_eq_true rfl) ?_
  intro p e s m below meth c hX hr hlk hK hE hH ls hl
  have C0 : wCx p m c s _ meth cX5_home 2 RX5 (some .int) D cs ad b := ⟨hX, hr, hlk, hK, hE⟩
  have hX : CallFix p m c cX5_home 2 s _ lw_all RX5 := hX
  have hx := hX.1
  have hb := hX.2.1
  have hown := hX.2.2.2.1
  have hts := hX.2.2.2.2
  have hl : lv_has ls 2 [(0, .ref (G.1 0))] := hl
  unfold v_X5_home at hq
  refine lv_aload_n hx hb dX5_home_0 rfl (lv_at hl 0 rfl) ?_
  obtain ⟨hp, hq⟩ := hq
  refine w_cV hH (w_rV (As := []) (rest := []) hX hK hE hH (c_X5_save   _ hp) ck5 sh0 q2_60 q2_62 qs1 q1_1 q2_63 hd_X5_save ⟨Nat.le_of_ble_eq_true rfl, Nat.le_of_ble_eq_true rfl⟩ ⟨rfl, rfl⟩ rfl hl.1 rfl (Nat.le_of_ble_eq_true rfl) dX5_home_1 ⟨Nat.zero_le _, Nat.zero_le _⟩) (fun  I1 H locs hpo hH => ?_)
  have hq := hq  I1 hpo
  refine lv_aload_n hx hb dX5_home_4 rfl (lv_at hl 0 rfl) ?_
  refine w_getr hX hK hH ck5 sh0 0 1 1 fr5_0 rfl q1_172 dX5_home_5 ?_
  refine w_getrN hX hK hE hH ck3 (sf5_0 sh0) 0 1 2 fr3_0 rfl qn1_58 dX5_home_8 ?_
  obtain ⟨hp, hq⟩ := hq
  refine w_cIp hH (w_rV (As := []) (rest := []) hX hK hE hH (c_X0_reach (sf3_0 (sf5_0 sh0))  _ hp) ck0 (sf3_0 (sf5_0 sh0)) q2_186 q2_187 q2_188 q1_3 q2_189 hd_X0_reach ⟨Nat.le_of_ble_eq_true rfl, Nat.le_of_ble_eq_true rfl⟩ ⟨rfl, rfl⟩ rfl hl.1 rfl (Nat.le_of_ble_eq_true rfl) dX5_home_11 ⟨Nat.zero_le _, Nat.zero_le _⟩) (fun r2  H locs hpo hH => ?_)
  have hq := hq r2  hpo
  obtain ⟨hp, hq⟩ := hq
  refine w_cIp hH (w_rS (As := [.int r2]) (rest := []) hX hK hE hH (c_J_bitCount  _ _ hp) q2_227 q2_228 q1_12 q2_229 hd_J_bitCount.2 ⟨Nat.le_of_ble_eq_true rfl, Nat.le_of_ble_eq_true rfl⟩ ⟨rfl, rfl⟩ rfl hl.1 rfl (Nat.le_of_ble_eq_true rfl) dX5_home_14 ⟨Nat.zero_le _, Nat.zero_le _⟩) (fun r3  H locs hpo hH => ?_)
  have hq := hq r3  hpo
  refine lv_istore_n (lv' := [(1, .int r3), (0, .ref (G.1 0))]) hx hb dX5_home_17 rfl hl (by decide) rfl (fun ls hl => ?_)
  refine lv_aload_n hx hb dX5_home_18 rfl (lv_at hl 1 rfl) ?_
  refine w_getr hX hK hH ck5 sh0 0 1 1 fr5_0 rfl q1_172 dX5_home_19 ?_
  refine w_getrN hX hK hE hH ck3 (sf5_0 sh0) 0 1 2 fr3_0 rfl qn1_58 dX5_home_22 ?_
  obtain ⟨hp, hq⟩ := hq
  refine w_cV hH (w_rV (As := []) (rest := []) hX hK hE hH (c_X0_bringHome (sf3_0 (sf5_0 sh0))  _ hp) ck0 (sf3_0 (sf5_0 sh0)) q2_157 q2_158 q2_159 q1_3 q2_160 hd_X0_bringHome ⟨Nat.le_of_ble_eq_true rfl, Nat.le_of_ble_eq_true rfl⟩ ⟨rfl, rfl⟩ rfl hl.1 rfl (Nat.le_of_ble_eq_true rfl) dX5_home_25 ⟨Nat.zero_le _, Nat.zero_le _⟩) (fun  I4 H locs hpo hH => ?_)
  have hq := hq  I4 hpo
  refine lv_aload_n hx hb dX5_home_28 rfl (lv_at hl 1 rfl) ?_
  refine w_getr hX hK hH ck5 sh0 0 1 1 fr5_0 rfl q1_172 dX5_home_29 ?_
  refine lv_iconst (v := 0) hx hb dX5_home_32 (by decide) ?_
  refine w_putiN hX hK hE hH ck3 (sf5_0 sh0) 7 fw3_7 qn1_74 dX5_home_33 (fun I5 H locs hI hH => ?_)
  have hq := hq I5 hI
  refine lv_iload_n hx hb dX5_home_36 rfl (lv_at hl 0 rfl) ?_
  exact w_eI hX hr hlk hH hq dX5_home_37
abbrev rm_X5_isKeyMask : Room := { frames := 1, cells := 0, slots := 0, locals := 20 }
theorem hd_X5_isKeyMask : yX5_isKeyMask.cls = RX5 ∧ yX5_isKeyMask.cls ≠ "java/lang/invoke/MethodHandle" ∧ yX5_isKeyMask.cls ≠ "java/lang/invoke/VarHandle" ∧ (parseMethodDescriptor yX5_isKeyMask.desc).map (fun d => d.parameters.length) = some 1 := by decide +kernel
set_option maxRecDepth 100000 in
set_option maxHeartbeats 4000000 in
theorem s_X5_isKeyMask_23 {x0 : Int32} {I : wI} {Q : Int32 → Prop} (C0 : wCx p m c s args meth cX5_isKeyMask 1 RX5 (some .boolean) D cs ad b) : ∀ (t0 : Int32) (H : Heap) (locs : List Loc) (ls : Array Slot), v_X5_isKeyMask_23 x0 I Q t0 → wH D cs b G I s H locs → lv_has ls 1 [] → W p l e rm_X5_isKeyMask s m args below meth c H locs 0 0 (MQ below (va_Qi (fun r I' => I' = I ∧ Q r) (wPo D cs b G) (fun q => b ≤ q)) args s 0 0 (fun q => b ≤ q)) (F0 m 23 ls [.int t0]) := by
  obtain ⟨hX, hr, hlk, hK, hE⟩ := id C0
  have hx := hX.1
  have hb := hX.2.1
  have hown := hX.2.2.2.1
  have hts := hX.2.2.2.2
  intro t0 H locs ls hq hH hl
  unfold v_X5_isKeyMask_23 at hq
  obtain ⟨hz, hq⟩ := hq
  exact w_eZ hz hX hr hlk hH ⟨rfl, hq⟩ dX5_isKeyMask_23
set_option maxRecDepth 100000 in
set_option maxHeartbeats 4000000 in
theorem s_X5_isKeyMask_22 {x0 : Int32} {I : wI} {Q : Int32 → Prop} (C0 : wCx p m c s args meth cX5_isKeyMask 1 RX5 (some .boolean) D cs ad b) : ∀  (H : Heap) (locs : List Loc) (ls : Array Slot), v_X5_isKeyMask_22 x0 I Q  → wH D cs b G I s H locs → lv_has ls 1 [] → W p l e rm_X5_isKeyMask s m args below meth c H locs 0 0 (MQ below (va_Qi (fun r I' => I' = I ∧ Q r) (wPo D cs b G) (fun q => b ≤ q)) args s 0 0 (fun q => b ≤ q)) (F0 m 22 ls []) := by
  obtain ⟨hX, hr, hlk, hK, hE⟩ := id C0
  have hx := hX.1
  have hb := hX.2.1
  have hown := hX.2.2.2.1
  have hts := hX.2.2.2.2
  intro  H locs ls hq hH hl
  unfold v_X5_isKeyMask_22 at hq
  refine lv_iconst (v := 0) hx hb dX5_isKeyMask_22 (by decide) ?_
  exact s_X5_isKeyMask_23  C0  (0 : Int32) _ _ _ hq hH (lv_sub hl [] rfl)
set_option maxRecDepth 100000 in
set_option maxHeartbeats 4000000 in
theorem c_X5_isKeyMask {l : Launch} {D : va_G} {cs : wC4} {ad : Nat → Nat} {b : Nat} {G : wG} (x0 : Int32) (I : wI) (hp : pre_X5_isKeyMask x0 I) : Met l yX5_isKeyMask (ws_ yX5_isKeyMask cX5_isKeyMask 1 (some .boolean)) rm_X5_isKeyMask (va_Pc [.int x0] (wPr D cs ad b G I)) (va_Qi (fun r I' => I' = I ∧ post_X5_isKeyMask x0 I r) (wPo D cs b G) (fun q => b ≤ q)) 0 0 (fun q => b ≤ q) := by
  have hq := vc_X5_isKeyMask x0 I hp
  refine w_met (by decide) (Nat.le_of_ble_eq_true rfl) ?_
  intro p e s m below meth c hX hr hlk hK hE hH ls hl
  have C0 : wCx p m c s _ meth cX5_isKeyMask 1 RX5 (some .boolean) D cs ad b := ⟨hX, hr, hlk, hK, hE⟩
  have hX : CallFix p m c cX5_isKeyMask 1 s _ lw_all RX5 := hX
  have hx := hX.1
  have hb := hX.2.1
  have hown := hX.2.2.2.1
  have hts := hX.2.2.2.2
  have hl : lv_has ls 1 [(0, .int x0)] := hl
  unfold v_X5_isKeyMask at hq
  refine lv_iload_n hx hb dX5_isKeyMask_0 rfl (lv_at hl 0 rfl) ?_
  refine lv_if_lt (tgt := 22) hx hb dX5_isKeyMask_1 (by decide) (fun hc => ?_) (fun hc => ?_)
  · have hq := hq.1 hc
    exact s_X5_isKeyMask_22  C0   _ _ _ hq hH (lv_sub hl [] rfl)
  · have hq := hq.2 hc
    refine lv_iload_n hx hb dX5_isKeyMask_4 rfl (lv_at hl 0 rfl) ?_
    refine lv_bipush (v := 64) hx hb dX5_isKeyMask_5 (by decide) ?_
    refine lv_icmp_ge (tgt := 22) hx hb dX5_isKeyMask_7 (by decide) (fun hc => ?_) (fun hc => ?_)
    · have hq := hq.1 hc
      exact s_X5_isKeyMask_22  C0   _ _ _ hq hH (lv_sub hl [] rfl)
    · have hq := hq.2 hc
      refine lv_iload_n hx hb dX5_isKeyMask_10 rfl (lv_at hl 0 rfl) ?_
      obtain ⟨hp, hq⟩ := hq
      refine w_cIp hH (w_rS (As := [.int x0]) (rest := []) hX hK hE hH (c_J_bitCount  _ _ hp) q2_227 q2_228 q1_12 q2_229 hd_J_bitCount.2 ⟨Nat.le_of_ble_eq_true rfl, Nat.le_of_ble_eq_true rfl⟩ ⟨rfl, rfl⟩ rfl hl.1 rfl (Nat.le_of_ble_eq_true rfl) dX5_isKeyMask_11 ⟨Nat.zero_le _, Nat.zero_le _⟩) (fun r1  H locs hpo hH => ?_)
      have hq := hq r1  hpo
      refine lv_iconst (v := 2) hx hb dX5_isKeyMask_14 (by decide) ?_
      refine lv_icmp_lt (tgt := 22) hx hb dX5_isKeyMask_15 (by decide) (fun hc => ?_) (fun hc => ?_)
      · have hq := hq.1 hc
        exact s_X5_isKeyMask_22  C0   _ _ _ hq hH (lv_sub hl [] rfl)
      · have hq := hq.2 hc
        refine lv_iconst (v := 1) hx hb dX5_isKeyMask_18 (by decide) ?_
        refine lv_goto (tgt := 23) hx hb dX5_isKeyMask_19 (by decide) ?_
        exact s_X5_isKeyMask_23  C0  (1 : Int32) _ _ _ hq hH (lv_sub hl [] rfl)
abbrev rm_X1_shape : Room := { frames := 0, cells := 0, slots := 0, locals := 0 }
theorem hd_X1_shape : yX1_shape.cls = RX1 ∧ yX1_shape.cls ≠ "java/lang/invoke/MethodHandle" ∧ yX1_shape.cls ≠ "java/lang/invoke/VarHandle" ∧ (parseMethodDescriptor yX1_shape.desc).map (fun d => d.parameters.length) = some 3 := by decide +kernel
set_option maxRecDepth 100000 in
set_option maxHeartbeats 4000000 in
theorem s_X1_shape_23 {k : Nat} {x1 : Int32} {x2 : Int32} {x3 : Int32} {Q : wI → Prop} (hs : wSh k = (0, 1)) (C0 : wCx p m c s args meth cX1_shape 4 RX1 none D cs ad b) : ∀  (I : wI) (H : Heap) (locs : List Loc) (ls : Array Slot), v_X1_shape_23 k x1 x2 x3 Q  I → wH D cs b G I s H locs → lv_has ls 4 [] → W p l e rm_X1_shape s m args below meth c H locs 0 0 (MQ below (va_Qv (Q) (wPo D cs b G) (fun q => b ≤ q)) args s 0 0 (fun q => b ≤ q)) (F0 m 23 ls []) := by
  obtain ⟨hX, hr, hlk, hK, hE⟩ := id C0
  have hx := hX.1
  have hb := hX.2.1
  have hown := hX.2.2.2.1
  have hts := hX.2.2.2.2
  intro  I H locs ls hq hH hl
  unfold v_X1_shape_23 at hq
  exact w_eV hX hr hlk hH hq dX1_shape_23
set_option maxRecDepth 100000 in
set_option maxHeartbeats 4000000 in
theorem c_X1_shape {l : Launch} {D : va_G} {cs : wC4} {ad : Nat → Nat} {b : Nat} {G : wG} {k : Nat} (hs : wSh k = (0, 1)) (x1 : Int32) (x2 : Int32) (x3 : Int32) (I : wI) (hp : pre_X1_shape k x1 x2 x3 I) : Met l yX1_shape (ws_ yX1_shape cX1_shape 4 none) rm_X1_shape (va_Pc [.ref (G.1 k), .int x1, .int x2, .int x3] (wPr D cs ad b G I)) (va_Qv (fun I' => post_X1_shape k x1 x2 x3 I I') (wPo D cs b G) (fun q => b ≤ q)) 0 0 (fun q => b ≤ q) := by
  have hq := vc_X1_shape k x1 x2 x3 I hp
  refine w_met (by decide) (Nat.le_of_ble_eq_true rfl) ?_
  intro p e s m below meth c hX hr hlk hK hE hH ls hl
  have C0 : wCx p m c s _ meth cX1_shape 4 RX1 none D cs ad b := ⟨hX, hr, hlk, hK, hE⟩
  have hX : CallFix p m c cX1_shape 4 s _ lw_all RX1 := hX
  have hx := hX.1
  have hb := hX.2.1
  have hown := hX.2.2.2.1
  have hts := hX.2.2.2.2
  have hl : lv_has ls 4 [(0, .ref (G.1 k)), (1, .int x1), (2, .int x2), (3, .int x3)] := hl
  unfold v_X1_shape at hq
  refine lv_iload_n hx hb dX1_shape_0 rfl (lv_at hl 1 rfl) ?_
  refine lv_if_lt (tgt := 23) hx hb dX1_shape_1 (by decide) (fun hc => ?_) (fun hc => ?_)
  · have hq := hq.1 hc
    exact s_X1_shape_23 hs C0   _ _ _ _ hq hH (lv_sub hl [] rfl)
  · have hq := hq.2 hc
    refine lv_iload_n hx hb dX1_shape_4 rfl (lv_at hl 1 rfl) ?_
    refine lv_iconst (v := 5) hx hb dX1_shape_5 (by decide) ?_
    refine lv_icmp_ge (tgt := 23) hx hb dX1_shape_6 (by decide) (fun hc => ?_) (fun hc => ?_)
    · have hq := hq.1 hc
      exact s_X1_shape_23 hs C0   _ _ _ _ hq hH (lv_sub hl [] rfl)
    · have hq := hq.2 hc
      refine lv_aload_n hx hb dX1_shape_9 rfl (lv_at hl 0 rfl) ?_
      refine w_getr hX hK hH ck1 hs 0 1 (k + 1) fr1_0 rfl q1_49 dX1_shape_10 ?_
      refine lv_iload_n hx hb dX1_shape_13 rfl (lv_at hl 1 rfl) ?_
      refine lv_iload_n hx hb dX1_shape_14 rfl (lv_at hl 2 rfl) ?_
      obtain ⟨hc, hq⟩ := hq
      refine w_iast hX hK hH (sf1_0 hs) hc dX1_shape_15 (fun I1 H locs hI hH => ?_)
      have hq := hq I1 hI
      refine lv_aload_n hx hb dX1_shape_16 rfl (lv_at hl 0 rfl) ?_
      refine w_getr hX hK hH ck1 hs 1 2 (k + 2) fr1_1 rfl q1_50 dX1_shape_17 ?_
      refine lv_iload_n hx hb dX1_shape_20 rfl (lv_at hl 1 rfl) ?_
      refine lv_iload_n hx hb dX1_shape_21 rfl (lv_at hl 3 rfl) ?_
      obtain ⟨hc, hq⟩ := hq
      refine w_iast hX hK hH (sf1_1 hs) hc dX1_shape_22 (fun I2 H locs hI hH => ?_)
      have hq := hq I2 hI
      exact s_X1_shape_23 hs C0   _ _ _ _ hq hH (lv_sub hl [] rfl)
abbrev rm_X5_cut : Room := { frames := 9, cells := 0, slots := 0, locals := 140 }
theorem hd_X5_cut : yX5_cut.cls = RX5 ∧ yX5_cut.cls ≠ "java/lang/invoke/MethodHandle" ∧ yX5_cut.cls ≠ "java/lang/invoke/VarHandle" ∧ (parseMethodDescriptor yX5_cut.desc).map (fun d => d.parameters.length) = some 3 := by decide +kernel
set_option maxRecDepth 100000 in
set_option maxHeartbeats 4000000 in
theorem s_X5_cut_20 {x1 : Int32} {x2 : Int32} {x3 : Int32} {Q : Int32 → wI → Prop} (C0 : wCx p m c s args meth cX5_cut 5 RX5 (some .int) D cs ad b) : ∀  (I : wI) (H : Heap) (locs : List Loc) (ls : Array Slot), v_X5_cut_20 x1 x2 x3 Q  I → wH D cs b G I s H locs → lv_has ls 5 [] → W p l e rm_X5_cut s m args below meth c H locs 0 0 (MQ below (va_Qi (Q) (wPo D cs b G) (fun q => b ≤ q)) args s 0 0 (fun q => b ≤ q)) (F0 m 20 ls []) := by
  obtain ⟨hX, hr, hlk, hK, hE⟩ := id C0
  have hx := hX.1
  have hb := hX.2.1
  have hown := hX.2.2.2.1
  have hts := hX.2.2.2.2
  intro  I H locs ls hq hH hl
  unfold v_X5_cut_20 at hq
  exact hq.elim
set_option maxRecDepth 100000 in
set_option maxHeartbeats 4000000 in
theorem c_X5_cut {l : Launch} {D : va_G} {cs : wC4} {ad : Nat → Nat} {b : Nat} {G : wG} (x1 : Int32) (x2 : Int32) (x3 : Int32) (I : wI) (hp : pre_X5_cut x1 x2 x3 I) : Met l yX5_cut (ws_ yX5_cut cX5_cut 5 (some .int)) rm_X5_cut (va_Pc [.ref (G.1 0), .int x1, .int x2, .int x3] (wPr D cs ad b G I)) (va_Qi (fun r I' => post_X5_cut x1 x2 x3 I r I') (wPo D cs b G) (fun q => b ≤ q)) 0 0 (fun q => b ≤ q) := by
  have hq := vc_X5_cut x1 x2 x3 I hp
  refine w_met (by decide) (Nat.le_of_ble_eq_true rfl) ?_
  intro p e s m below meth c hX hr hlk hK hE hH ls hl
  have C0 : wCx p m c s _ meth cX5_cut 5 RX5 (some .int) D cs ad b := ⟨hX, hr, hlk, hK, hE⟩
  have hX : CallFix p m c cX5_cut 5 s _ lw_all RX5 := hX
  have hx := hX.1
  have hb := hX.2.1
  have hown := hX.2.2.2.1
  have hts := hX.2.2.2.2
  have hl : lv_has ls 5 [(0, .ref (G.1 0)), (1, .int x1), (2, .int x2), (3, .int x3)] := hl
  unfold v_X5_cut at hq
  refine lv_iload_n hx hb dX5_cut_0 rfl (lv_at hl 1 rfl) ?_
  obtain ⟨hp, hq⟩ := hq
  refine w_cVp hH (w_rS (As := [.int x1]) (rest := []) hX hK hE hH (c_X5_requireKey  _ _ hp) q2_141 q2_142 q1_1 q2_143 hd_X5_requireKey.2 ⟨Nat.le_of_ble_eq_true rfl, Nat.le_of_ble_eq_true rfl⟩ ⟨rfl, rfl⟩ rfl hl.1 rfl (Nat.le_of_ble_eq_true rfl) dX5_cut_1 ⟨Nat.zero_le _, Nat.zero_le _⟩) (fun   H locs hpo hH => ?_)
  have hq := hq   hpo
  refine lv_iload_n hx hb dX5_cut_4 rfl (lv_at hl 2 rfl) ?_
  obtain ⟨hp, hq⟩ := hq
  refine w_cIp hH (w_rS (As := [.int x2]) (rest := []) hX hK hE hH (c_X5_isKeyMask  _ _ hp) q3_175 q3_176 q1_1 q3_177 hd_X5_isKeyMask.2 ⟨Nat.le_of_ble_eq_true rfl, Nat.le_of_ble_eq_true rfl⟩ ⟨rfl, rfl⟩ rfl hl.1 rfl (Nat.le_of_ble_eq_true rfl) dX5_cut_5 ⟨Nat.zero_le _, Nat.zero_le _⟩) (fun r1  H locs hpo hH => ?_)
  have hq := hq r1  hpo
  refine lv_if_eq (tgt := 20) hx hb dX5_cut_8 (by decide) (fun hc => ?_) (fun hc => ?_)
  · have hq := hq.1 hc
    exact s_X5_cut_20  C0   _ _ _ _ hq hH (lv_sub hl [] rfl)
  · have hq := hq.2 hc
    refine lv_iload_n hx hb dX5_cut_11 rfl (lv_at hl 3 rfl) ?_
    refine lv_if_lt (tgt := 20) hx hb dX5_cut_12 (by decide) (fun hc => ?_) (fun hc => ?_)
    · have hq := hq.1 hc
      exact s_X5_cut_20  C0   _ _ _ _ hq hH (lv_sub hl [] rfl)
    · have hq := hq.2 hc
      refine lv_iload_n hx hb dX5_cut_15 rfl (lv_at hl 3 rfl) ?_
      refine lv_iconst (v := 5) hx hb dX5_cut_16 (by decide) ?_
      refine lv_icmp_lt (tgt := 30) hx hb dX5_cut_17 (by decide) (fun hc => ?_) (fun hc => ?_)
      · have hq := hq.1 hc
        refine lv_aload_n hx hb dX5_cut_30 rfl (lv_at hl 0 rfl) ?_
        obtain ⟨hp, hq⟩ := hq
        refine w_cV hH (w_rV (As := []) (rest := []) hX hK hE hH (c_X5_save   _ hp) ck5 sh0 q2_60 q2_62 qs1 q1_1 q2_63 hd_X5_save ⟨Nat.le_of_ble_eq_true rfl, Nat.le_of_ble_eq_true rfl⟩ ⟨rfl, rfl⟩ rfl hl.1 rfl (Nat.le_of_ble_eq_true rfl) dX5_cut_31 ⟨Nat.zero_le _, Nat.zero_le _⟩) (fun  I2 H locs hpo hH => ?_)
        have hq := hq  I2 hpo
        refine lv_aload_n hx hb dX5_cut_34 rfl (lv_at hl 0 rfl) ?_
        refine w_getr hX hK hH ck5 sh0 0 1 1 fr5_0 rfl q1_172 dX5_cut_35 ?_
        refine w_getrN hX hK hE hH ck3 (sf5_0 sh0) 1 4 5 fr3_1 rfl qn1_61 dX5_cut_38 ?_
        refine lv_iload_n hx hb dX5_cut_41 rfl (lv_at hl 1 rfl) ?_
        obtain ⟨hp, hq⟩ := hq
        refine w_cIp hH (w_rV (As := [.int x1]) (rest := []) hX hK hE hH (c_X1_maskOf (sf3_1 (sf5_0 sh0)) _ _ hp) ck1 (sf3_1 (sf5_0 sh0)) q2_145 q2_146 q2_147 q1_4 q2_148 hd_X1_maskOf ⟨Nat.le_of_ble_eq_true rfl, Nat.le_of_ble_eq_true rfl⟩ ⟨rfl, rfl⟩ rfl hl.1 rfl (Nat.le_of_ble_eq_true rfl) dX5_cut_42 ⟨Nat.zero_le _, Nat.zero_le _⟩) (fun r3  H locs hpo hH => ?_)
        have hq := hq r3  hpo
        refine lv_istore (lv' := [(4, .int r3), (0, .ref (G.1 0)), (1, .int x1), (2, .int x2), (3, .int x3)]) hx hb dX5_cut_45 hl (by decide) rfl (fun ls hl => ?_)
        refine lv_aload_n hx hb dX5_cut_47 rfl (lv_at hl 1 rfl) ?_
        refine w_getr hX hK hH ck5 sh0 0 1 1 fr5_0 rfl q1_172 dX5_cut_48 ?_
        refine w_getrN hX hK hE hH ck3 (sf5_0 sh0) 1 4 5 fr3_1 rfl qn1_61 dX5_cut_51 ?_
        refine lv_iload_n hx hb dX5_cut_54 rfl (lv_at hl 2 rfl) ?_
        refine lv_iload_n hx hb dX5_cut_55 rfl (lv_at hl 3 rfl) ?_
        refine lv_iload_n hx hb dX5_cut_56 rfl (lv_at hl 4 rfl) ?_
        obtain ⟨hp, hq⟩ := hq
        refine w_cV hH (w_rV (As := [.int x1, .int x2, .int x3]) (rest := []) hX hK hE hH (c_X1_shape (sf3_1 (sf5_0 sh0)) _ _ _ _ hp) ck1 (sf3_1 (sf5_0 sh0)) q3_179 q3_180 q3_181 q1_4 q3_182 hd_X1_shape ⟨Nat.le_of_ble_eq_true rfl, Nat.le_of_ble_eq_true rfl⟩ ⟨rfl, rfl⟩ rfl hl.1 rfl (Nat.le_of_ble_eq_true rfl) dX5_cut_57 ⟨Nat.zero_le _, Nat.zero_le _⟩) (fun  I4 H locs hpo hH => ?_)
        have hq := hq  I4 hpo
        refine lv_iload hx hb dX5_cut_60 (lv_at hl 0 rfl) ?_
        exact w_eI hX hr hlk hH hq dX5_cut_62
      · have hq := hq.2 hc
        exact s_X5_cut_20  C0   _ _ _ _ hq hH (lv_sub hl [] rfl)
abbrev rm_X5_cutx : Room := { frames := 9, cells := 1, slots := 6, locals := 140 }

set_option maxRecDepth 100000 in
set_option maxHeartbeats 4000000 in
theorem s_X5_cutx_20 {x1 : Int32} {x2 : Int32} {x3 : Int32} {X : String → wI → Prop} (hst : l.stackTraces = false) (hEx : ∀ x ∈ c.exceptionTable.toList, False) (C0 : wCx p m c s args meth cX5_cut 5 RX5 (some .int) D cs ad b) : ∀  (I : wI) (H : Heap) (locs : List Loc) (ls : Array Slot), v_X5_cutx_20 x1 x2 x3 X  I → wH D cs b G I s H locs → lv_has ls 5 [] → W p l e rm_X5_cutx s m args below meth c H locs 0 0 (vx_MQ below (va_Qi (fun (_ : Int32) (_ : wI) => False) (wPo D cs b G) (fun q => b ≤ q)) (wXC D cs b G X) args s 1 6 (fun q => b ≤ q)) (F0 m 20 ls []) := by
  obtain ⟨hX, hr, hlk, hK, hE⟩ := id C0
  have hx := hX.1
  have hb := hX.2.1
  have hown := hX.2.2.2.1
  have hts := hX.2.2.2.2
  intro  I H locs ls hq hH hl
  unfold v_X5_cutx_20 at hq
  exact w_throw th_X5_66_122_70 hX hst hlk hEx hE hH hl.1 dX5_cut_20 dX5_cut_23 dX5_cut_24 dX5_cut_26 dX5_cut_29 ⟨Nat.le_of_ble_eq_true rfl, Nat.le_of_ble_eq_true rfl, Nat.le_of_ble_eq_true rfl, Nat.le_of_ble_eq_true rfl⟩ hq
set_option maxRecDepth 100000 in
set_option maxHeartbeats 4000000 in
theorem c_X5_cutx {l : Launch} {D : va_G} {cs : wC4} {ad : Nat → Nat} {b : Nat} {G : wG} (hst : l.stackTraces = false) (x1 : Int32) (x2 : Int32) (x3 : Int32) (I : wI) (hp : pre_X5_cutx x1 x2 x3 I) : vx_Met l yX5_cut (ws_ yX5_cut cX5_cut 5 (some .int)) rm_X5_cutx (va_Pc [.ref (G.1 0), .int x1, .int x2, .int x3] (wPr D cs ad b G I)) (va_Qi (fun (_ : Int32) (_ : wI) => False) (wPo D cs b G) (fun q => b ≤ q)) (wXC D cs b G (exc_X5_cut x1 x2 x3 I)) 1 6 (fun q => b ≤ q) := by
  have hq := vc_X5_cutx x1 x2 x3 I hp
  refine w_metx (by decide) (Nat.le_of_ble_eq_true rfl) ?_
  intro p e s m below meth c hX hr hlk hEx hK hE hH ls hl
  have C0 : wCx p m c s _ meth cX5_cut 5 RX5 (some .int) D cs ad b := ⟨hX, hr, hlk, hK, hE⟩
  have hX : CallFix p m c cX5_cut 5 s _ lw_all RX5 := hX
  have hx := hX.1
  have hb := hX.2.1
  have hown := hX.2.2.2.1
  have hts := hX.2.2.2.2
  have hl : lv_has ls 5 [(0, .ref (G.1 0)), (1, .int x1), (2, .int x2), (3, .int x3)] := hl
  unfold v_X5_cutx at hq
  refine lv_iload_n hx hb dX5_cut_0 rfl (lv_at hl 1 rfl) ?_
  by_cases hok : ok_X5_requireKey x1 I
  · have hq := hq.1 hok
    obtain ⟨hp, hq⟩ := hq
    refine w_cVp hH (w_rS (As := [.int x1]) (rest := []) hX hK hE hH (c_X5_requireKey  _ _ hp) q2_141 q2_142 q1_1 q2_143 hd_X5_requireKey.2 ⟨Nat.le_of_ble_eq_true rfl, Nat.le_of_ble_eq_true rfl⟩ ⟨rfl, rfl⟩ rfl hl.1 rfl (Nat.le_of_ble_eq_true rfl) dX5_cut_1 ⟨Nat.zero_le _, Nat.zero_le _⟩) (fun   H locs hpo hH => ?_)
    have hq := hq   hpo
    refine lv_iload_n hx hb dX5_cut_4 rfl (lv_at hl 2 rfl) ?_
    obtain ⟨hp, hq⟩ := hq
    refine w_cIp hH (w_rS (As := [.int x2]) (rest := []) hX hK hE hH (c_X5_isKeyMask  _ _ hp) q3_175 q3_176 q1_1 q3_177 hd_X5_isKeyMask.2 ⟨Nat.le_of_ble_eq_true rfl, Nat.le_of_ble_eq_true rfl⟩ ⟨rfl, rfl⟩ rfl hl.1 rfl (Nat.le_of_ble_eq_true rfl) dX5_cut_5 ⟨Nat.zero_le _, Nat.zero_le _⟩) (fun r1  H locs hpo hH => ?_)
    have hq := hq r1  hpo
    refine lv_if_eq (tgt := 20) hx hb dX5_cut_8 (by decide) (fun hc => ?_) (fun hc => ?_)
    · have hq := hq.1 hc
      exact s_X5_cutx_20 hst hEx C0   _ _ _ _ hq hH (lv_sub hl [] rfl)
    · have hq := hq.2 hc
      refine lv_iload_n hx hb dX5_cut_11 rfl (lv_at hl 3 rfl) ?_
      refine lv_if_lt (tgt := 20) hx hb dX5_cut_12 (by decide) (fun hc => ?_) (fun hc => ?_)
      · have hq := hq.1 hc
        exact s_X5_cutx_20 hst hEx C0   _ _ _ _ hq hH (lv_sub hl [] rfl)
      · have hq := hq.2 hc
        refine lv_iload_n hx hb dX5_cut_15 rfl (lv_at hl 3 rfl) ?_
        refine lv_iconst (v := 5) hx hb dX5_cut_16 (by decide) ?_
        refine lv_icmp_lt (tgt := 30) hx hb dX5_cut_17 (by decide) (fun hc => ?_) (fun hc => ?_)
        · have hq := hq.1 hc
          refine lv_aload_n hx hb dX5_cut_30 rfl (lv_at hl 0 rfl) ?_
          obtain ⟨hp, hq⟩ := hq
          refine w_cV hH (w_rV (As := []) (rest := []) hX hK hE hH (c_X5_save   _ hp) ck5 sh0 q2_60 q2_62 qs1 q1_1 q2_63 hd_X5_save ⟨Nat.le_of_ble_eq_true rfl, Nat.le_of_ble_eq_true rfl⟩ ⟨rfl, rfl⟩ rfl hl.1 rfl (Nat.le_of_ble_eq_true rfl) dX5_cut_31 ⟨Nat.zero_le _, Nat.zero_le _⟩) (fun  I2 H locs hpo hH => ?_)
          have hq := hq  I2 hpo
          refine lv_aload_n hx hb dX5_cut_34 rfl (lv_at hl 0 rfl) ?_
          refine w_getr hX hK hH ck5 sh0 0 1 1 fr5_0 rfl q1_172 dX5_cut_35 ?_
          refine w_getrN hX hK hE hH ck3 (sf5_0 sh0) 1 4 5 fr3_1 rfl qn1_61 dX5_cut_38 ?_
          refine lv_iload_n hx hb dX5_cut_41 rfl (lv_at hl 1 rfl) ?_
          obtain ⟨hp, hq⟩ := hq
          refine w_cIp hH (w_rV (As := [.int x1]) (rest := []) hX hK hE hH (c_X1_maskOf (sf3_1 (sf5_0 sh0)) _ _ hp) ck1 (sf3_1 (sf5_0 sh0)) q2_145 q2_146 q2_147 q1_4 q2_148 hd_X1_maskOf ⟨Nat.le_of_ble_eq_true rfl, Nat.le_of_ble_eq_true rfl⟩ ⟨rfl, rfl⟩ rfl hl.1 rfl (Nat.le_of_ble_eq_true rfl) dX5_cut_42 ⟨Nat.zero_le _, Nat.zero_le _⟩) (fun r3  H locs hpo hH => ?_)
          have hq := hq r3  hpo
          refine lv_istore (lv' := [(4, .int r3), (0, .ref (G.1 0)), (1, .int x1), (2, .int x2), (3, .int x3)]) hx hb dX5_cut_45 hl (by decide) rfl (fun ls hl => ?_)
          refine lv_aload_n hx hb dX5_cut_47 rfl (lv_at hl 1 rfl) ?_
          refine w_getr hX hK hH ck5 sh0 0 1 1 fr5_0 rfl q1_172 dX5_cut_48 ?_
          refine w_getrN hX hK hE hH ck3 (sf5_0 sh0) 1 4 5 fr3_1 rfl qn1_61 dX5_cut_51 ?_
          refine lv_iload_n hx hb dX5_cut_54 rfl (lv_at hl 2 rfl) ?_
          refine lv_iload_n hx hb dX5_cut_55 rfl (lv_at hl 3 rfl) ?_
          refine lv_iload_n hx hb dX5_cut_56 rfl (lv_at hl 4 rfl) ?_
          obtain ⟨hp, hq⟩ := hq
          refine w_cV hH (w_rV (As := [.int x1, .int x2, .int x3]) (rest := []) hX hK hE hH (c_X1_shape (sf3_1 (sf5_0 sh0)) _ _ _ _ hp) ck1 (sf3_1 (sf5_0 sh0)) q3_179 q3_180 q3_181 q1_4 q3_182 hd_X1_shape ⟨Nat.le_of_ble_eq_true rfl, Nat.le_of_ble_eq_true rfl⟩ ⟨rfl, rfl⟩ rfl hl.1 rfl (Nat.le_of_ble_eq_true rfl) dX5_cut_57 ⟨Nat.zero_le _, Nat.zero_le _⟩) (fun  I4 H locs hpo hH => ?_)
          have hq := hq  I4 hpo
          refine lv_iload hx hb dX5_cut_60 (lv_at hl 0 rfl) ?_
          exact hq.elim
        · have hq := hq.2 hc
          exact s_X5_cutx_20 hst hEx C0   _ _ _ _ hq hH (lv_sub hl [] rfl)
  · have hq := hq.2 hok
    obtain ⟨hp, hq⟩ := hq
    exact w_xV hEx hlk hH (w_xrS (As := [.int x1]) (rest := []) hX hK hE hH (c_X5_requireKeyx hst  _ _ hp) q2_141 q2_142 q1_1 q2_143 hd_X5_requireKey.2 ⟨Nat.le_of_ble_eq_true rfl, Nat.le_of_ble_eq_true rfl⟩ ⟨rfl, rfl⟩ rfl hl.1 rfl (Nat.le_of_ble_eq_true rfl) dX5_cut_1 ⟨Nat.le_of_ble_eq_true rfl, Nat.le_of_ble_eq_true rfl⟩) (fun E u h => by obtain ⟨h1, h2⟩ := h; subst h1; exact hq E h2)
end
