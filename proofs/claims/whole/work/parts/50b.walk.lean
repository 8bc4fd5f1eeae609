section
variable {p : Program} {l : Launch} {e : Env} {s : State} {m : MethodId} {args : Array Value} {below : List Frame} {meth : Method} {c : Code} {D : va_G} {cs : wC4} {ad : Nat → Nat} {b : Nat} {G : wG}
abbrev rm_X1_move : Room := { frames := 1, cells := 0, slots := 0, locals := 31 }
theorem hd_X1_move : yX1_move.cls = RX1 ∧ yX1_move.cls ≠ "java/lang/invoke/MethodHandle" ∧ yX1_move.cls ≠ "java/lang/invoke/VarHandle" ∧ (parseMethodDescriptor yX1_move.desc).map (fun d => d.parameters.length) = some 2 := by decide +kernel
set_option maxRecDepth 100000 in
set_option maxHeartbeats 4000000 in
theorem c_X1_move {l : Launch} {D : va_G} {cs : wC4} {ad : Nat → Nat} {b : Nat} {G : wG} {k : Nat} {k1 : Nat} (hs : wSh k = (0, 1)) (hs1 : wSh k1 = (0, 0)) (x2 : Int32) (I : wI) (hp : pre_X1_move k k1 x2 I) : Met l yX1_move (ws_ yX1_move cX1_move 4 none) rm_X1_move (va_Pc [.ref (b + k), .ref (b + k1), .int x2] (wPr D cs ad b G I)) (va_Qv (fun I' => post_X1_move k k1 x2 I I') (wPo D cs b G) (fun q => b ≤ q)) 0 0 (fun q => b ≤ q) := by
  have hq := vc_X1_move k k1 x2 I hp
  refine w_met (by decide) (Nat.le_of_ble_eq_true rfl) ?_
  intro p e s m below meth c hX hr hlk hK hE hH ls hl
  have C0 : wCx p m c s _ meth cX1_move 4 RX1 none D cs ad b := ⟨hX, hr, hlk, hK, hE⟩
  have hX : CallFix p m c cX1_move 4 s _ lw_all RX1 := hX
  have hx := hX.1
  have hb := hX.2.1
  have hown := hX.2.2.2.1
  have hts := hX.2.2.2.2
  have hl : lv_has ls 4 [(0, .ref (b + k)), (1, .ref (b + k1)), (2, .int x2)] := hl
  unfold v_X1_move at hq
  refine lv_iload_n hx hb dX1_move_0 rfl (lv_at hl 2 rfl) ?_
  obtain ⟨hp, hq⟩ := hq
  refine w_cIp hH (w_rSN (As := [.int x2]) (rest := []) hX hK hE hH (c_X5_keyOf  _ _ hp) qn2_98 q2_76 q1_1 q2_77 hd_X5_keyOf.2 ⟨Nat.le_of_ble_eq_true rfl, Nat.le_of_ble_eq_true rfl⟩ ⟨rfl, rfl⟩ rfl hl.1 rfl (Nat.le_of_ble_eq_true rfl) dX1_move_1 ⟨Nat.zero_le _, Nat.zero_le _⟩) (fun r1  H locs hpo hH => ?_)
  have hq := hq r1  hpo
  refine lv_istore_n (lv' := [(3, .int r1), (0, .ref (b + k)), (1, .ref (b + k1)), (2, .int x2)]) hx hb dX1_move_4 rfl hl (by decide) rfl (fun ls hl => ?_)
  refine lv_aload_n hx hb dX1_move_5 rfl (lv_at hl 2 rfl) ?_
  refine lv_aload_n hx hb dX1_move_6 rfl (lv_at hl 1 rfl) ?_
  refine lv_iload_n hx hb dX1_move_7 rfl (lv_at hl 0 rfl) ?_
  obtain ⟨hp, hq⟩ := hq
  refine w_cIp hH (w_rV (As := [.int r1]) (rest := [.ref (b + k1)]) hX hK hE hH (c_X1_maskOf hs _ _ hp) ck1 hs q2_99 q2_100 q2_101 q1_4 q2_102 hd_X1_maskOf ⟨Nat.le_of_ble_eq_true rfl, Nat.le_of_ble_eq_true rfl⟩ ⟨rfl, rfl⟩ rfl hl.1 rfl (Nat.le_of_ble_eq_true rfl) dX1_move_8 ⟨Nat.zero_le _, Nat.zero_le _⟩) (fun r2  H locs hpo hH => ?_)
  have hq := hq r2  hpo
  refine lv_aload_n hx hb dX1_move_11 rfl (lv_at hl 1 rfl) ?_
  refine lv_iload_n hx hb dX1_move_12 rfl (lv_at hl 0 rfl) ?_
  obtain ⟨hp, hq⟩ := hq
  refine w_cIp hH (w_rV (As := [.int r1]) (rest := [.int r2, .ref (b + k1)]) hX hK hE hH (c_X1_strengthOf hs _ _ hp) ck1 hs q2_103 q2_104 q2_105 q1_4 q2_106 hd_X1_strengthOf ⟨Nat.le_of_ble_eq_true rfl, Nat.le_of_ble_eq_true rfl⟩ ⟨rfl, rfl⟩ rfl hl.1 rfl (Nat.le_of_ble_eq_true rfl) dX1_move_13 ⟨Nat.zero_le _, Nat.zero_le _⟩) (fun r3  H locs hpo hH => ?_)
  have hq := hq r3  hpo
  refine lv_iload_n hx hb dX1_move_16 rfl (lv_at hl 3 rfl) ?_
  obtain ⟨hp, hq⟩ := hq
  refine w_cIp hH (w_rSN (As := [.int x2]) (rest := [.int r3, .int r2, .ref (b + k1)]) hX hK hE hH (c_X5_isBack  _ _ hp) qn2_107 q2_79 q1_1 q2_80 hd_X5_isBack.2 ⟨Nat.le_of_ble_eq_true rfl, Nat.le_of_ble_eq_true rfl⟩ ⟨rfl, rfl⟩ rfl hl.1 rfl (Nat.le_of_ble_eq_true rfl) dX1_move_17 ⟨Nat.zero_le _, Nat.zero_le _⟩) (fun r4  H locs hpo hH => ?_)
  have hq := hq r4  hpo
  obtain ⟨hp, hq⟩ := hq
  refine w_cV hH (w_rV (As := [.int r2, .int r3, .int r4]) (rest := []) hX hK hE hH (c_X0_rotate hs1 _ _ _ _ hp) ck0 hs1 q2_108 q2_109 q2_110 q1_3 q2_111 hd_X0_rotate ⟨Nat.le_of_ble_eq_true rfl, Nat.le_of_ble_eq_true rfl⟩ ⟨rfl, rfl⟩ rfl hl.1 rfl (Nat.le_of_ble_eq_true rfl) dX1_move_20 ⟨Nat.zero_le _, Nat.zero_le _⟩) (fun  I5 H locs hpo hH => ?_)
  have hq := hq  I5 hpo
  exact w_eV hX hr hlk hH hq dX1_move_23
abbrev rm_J_bitCount : Room := { frames := 0, cells := 0, slots := 0, locals := 0 }
theorem hd_J_bitCount : yJ6_bitCount_0f7a4.cls = RJ6 ∧ yJ6_bitCount_0f7a4.cls ≠ "java/lang/invoke/MethodHandle" ∧ yJ6_bitCount_0f7a4.cls ≠ "java/lang/invoke/VarHandle" ∧ (parseMethodDescriptor yJ6_bitCount_0f7a4.desc).map (fun d => d.parameters.length) = some 1 := by decide +kernel
set_option maxRecDepth 100000 in
set_option maxHeartbeats 4000000 in
theorem c_J_bitCount {l : Launch} {D : va_G} {cs : wC4} {ad : Nat → Nat} {b : Nat} {G : wG} (x0 : Int32) (I : wI) (hp : pre_J_bitCount x0 I) : Met l yJ6_bitCount_0f7a4 (ws_ yJ6_bitCount_0f7a4 cJ6_bitCount_0f7a4 1 (some .int)) rm_J_bitCount (va_Pc [.int x0] (wPr D cs ad b G I)) (va_Qi (fun r I' => I' = I ∧ post_J_bitCount x0 I r) (wPo D cs b G) (fun q => b ≤ q)) 0 0 (fun q => b ≤ q) := by
  have hq := vc_J_bitCount x0 I hp
  refine w_metF (by decide +kernel) (Nat.le_of_ble_eq_true rfl) ?_
  intro p e s m below meth c hX hr hlk hK hE hH ls hl
  have C0 : wCx p m c s _ meth cJ6_bitCount_0f7a4 1 RJ6 (some .int) D cs ad b := ⟨hX, hr, hlk, hK, hE⟩
  have hX : CallFix p m c cJ6_bitCount_0f7a4 1 s _ lw_all RJ6 := hX
  have hx := hX.1
  have hb := hX.2.1
  have hown := hX.2.2.2.1
  have hts := hX.2.2.2.2
  have hl : lv_has ls 1 [(0, .int x0)] := hl
  unfold v_J_bitCount at hq
  refine lv_iload_n hx hb dJ6_bitCount_0f7a4_0 rfl (lv_at hl 0 rfl) ?_
  refine lv_iload_n hx hb dJ6_bitCount_0f7a4_1 rfl (lv_at hl 0 rfl) ?_
  refine lv_iconst (v := 1) hx hb dJ6_bitCount_0f7a4_2 (by decide) ?_
  refine lv_iushr hx hb dJ6_bitCount_0f7a4_3 rfl ?_
  refine lv_ldcw hx hb hown (hts _ q2_1) dJ6_bitCount_0f7a4_4 ?_
  refine lv_iand hx hb dJ6_bitCount_0f7a4_7 ?_
  refine lv_isub hx hb dJ6_bitCount_0f7a4_8 ?_
  refine lv_istore_n (lv' := [(0, .int (x0 - (((x0).toUInt32 >>> (((1 : Int32)).toUInt32 &&& Int32.toUInt32 31)).toInt32 &&& (1431655765 : Int32))))]) hx hb dJ6_bitCount_0f7a4_9 rfl hl (by decide) rfl (fun ls hl => ?_)
  refine lv_iload_n hx hb dJ6_bitCount_0f7a4_10 rfl (lv_at hl 0 rfl) ?_
  refine lv_ldcw hx hb hown (hts _ q2_2) dJ6_bitCount_0f7a4_11 ?_
  refine lv_iand hx hb dJ6_bitCount_0f7a4_14 ?_
  refine lv_iload_n hx hb dJ6_bitCount_0f7a4_15 rfl (lv_at hl 0 rfl) ?_
  refine lv_iconst (v := 2) hx hb dJ6_bitCount_0f7a4_16 (by decide) ?_
  refine lv_iushr hx hb dJ6_bitCount_0f7a4_17 rfl ?_
  refine lv_ldcw hx hb hown (hts _ q2_2) dJ6_bitCount_0f7a4_18 ?_
  refine lv_iand hx hb dJ6_bitCount_0f7a4_21 ?_
  refine lv_iadd hx hb dJ6_bitCount_0f7a4_22 ?_
  refine lv_istore_n (lv' := [(0, .int (((x0 - (((x0).toUInt32 >>> (((1 : Int32)).toUInt32 &&& Int32.toUInt32 31)).toInt32 &&& (1431655765 : Int32))) &&& (858993459 : Int32)) + ((((x0 - (((x0).toUInt32 >>> (((1 : Int32)).toUInt32 &&& Int32.toUInt32 31)).toInt32 &&& (1431655765 : Int32)))).toUInt32 >>> (((2 : Int32)).toUInt32 &&& Int32.toUInt32 31)).toInt32 &&& (858993459 : Int32))))]) hx hb dJ6_bitCount_0f7a4_23 rfl hl (by decide) rfl (fun ls hl => ?_)
  refine lv_iload_n hx hb dJ6_bitCount_0f7a4_24 rfl (lv_at hl 0 rfl) ?_
  refine lv_iload_n hx hb dJ6_bitCount_0f7a4_25 rfl (lv_at hl 0 rfl) ?_
  refine lv_iconst (v := 4) hx hb dJ6_bitCount_0f7a4_26 (by decide) ?_
  refine lv_iushr hx hb dJ6_bitCount_0f7a4_27 rfl ?_
  refine lv_iadd hx hb dJ6_bitCount_0f7a4_28 ?_
  refine lv_ldcw hx hb hown (hts _ q2_3) dJ6_bitCount_0f7a4_29 ?_
  refine lv_iand hx hb dJ6_bitCount_0f7a4_32 ?_
  refine lv_istore_n (lv' := [(0, .int (((((x0 - (((x0).toUInt32 >>> (((1 : Int32)).toUInt32 &&& Int32.toUInt32 31)).toInt32 &&& (1431655765 : Int32))) &&& (858993459 : Int32)) + ((((x0 - (((x0).toUInt32 >>> (((1 : Int32)).toUInt32 &&& Int32.toUInt32 31)).toInt32 &&& (1431655765 : Int32)))).toUInt32 >>> (((2 : Int32)).toUInt32 &&& Int32.toUInt32 31)).toInt32 &&& (858993459 : Int32))) + (((((x0 - (((x0).toUInt32 >>> (((1 : Int32)).toUInt32 &&& Int32.toUInt32 31)).toInt32 &&& (1431655765 : Int32))) &&& (858993459 : Int32)) + ((((x0 - (((x0).toUInt32 >>> (((1 : Int32)).toUInt32 &&& Int32.toUInt32 31)).toInt32 &&& (1431655765 : Int32)))).toUInt32 >>> (((2 : Int32)).toUInt32 &&& Int32.toUInt32 31)).toInt32 &&& (858993459 : Int32)))).toUInt32 >>> (((4 : Int32)).toUInt32 &&& Int32.toUInt32 31)).toInt32) &&& (252645135 : Int32)))]) hx hb dJ6_bitCount_0f7a4_33 rfl hl (by decide) rfl (fun ls hl => ?_)
  refine lv_iload_n hx hb dJ6_bitCount_0f7a4_34 rfl (lv_at hl 0 rfl) ?_
  refine lv_iload_n hx hb dJ6_bitCount_0f7a4_35 rfl (lv_at hl 0 rfl) ?_
  refine lv_bipush (v := 8) hx hb dJ6_bitCount_0f7a4_36 (by decide) ?_
  refine lv_iushr hx hb dJ6_bitCount_0f7a4_38 rfl ?_
  refine lv_iadd hx hb dJ6_bitCount_0f7a4_39 ?_
  refine lv_istore_n (lv' := [(0, .int ((((((x0 - (((x0).toUInt32 >>> (((1 : Int32)).toUInt32 &&& Int32.toUInt32 31)).toInt32 &&& (1431655765 : Int32))) &&& (858993459 : Int32)) + ((((x0 - (((x0).toUInt32 >>> (((1 : Int32)).toUInt32 &&& Int32.toUInt32 31)).toInt32 &&& (1431655765 : Int32)))).toUInt32 >>> (((2 : Int32)).toUInt32 &&& Int32.toUInt32 31)).toInt32 &&& (858993459 : Int32))) + (((((x0 - (((x0).toUInt32 >>> (((1 : Int32)).toUInt32 &&& Int32.toUInt32 31)).toInt32 &&& (1431655765 : Int32))) &&& (858993459 : Int32)) + ((((x0 - (((x0).toUInt32 >>> (((1 : Int32)).toUInt32 &&& Int32.toUInt32 31)).toInt32 &&& (1431655765 : Int32)))).toUInt32 >>> (((2 : Int32)).toUInt32 &&& Int32.toUInt32 31)).toInt32 &&& (858993459 : Int32)))).toUInt32 >>> (((4 : Int32)).toUInt32 &&& Int32.toUInt32 31)).toInt32) &&& (252645135 : Int32)) + (((((((x0 - (((x0).toUInt32 >>> (((1 : Int32)).toUInt32 &&& Int32.toUInt32 31)).toInt32 &&& (1431655765 : Int32))) &&& (858993459 : Int32)) + ((((x0 - (((x0).toUInt32 >>> (((1 : Int32)).toUInt32 &&& Int32.toUInt32 31)).toInt32 &&& (1431655765 : Int32)))).toUInt32 >>> (((2 : Int32)).toUInt32 &&& Int32.toUInt32 31)).toInt32 &&& (858993459 : Int32))) + (((((x0 - (((x0).toUInt32 >>> (((1 : Int32)).toUInt32 &&& Int32.toUInt32 31)).toInt32 &&& (1431655765 : Int32))) &&& (858993459 : Int32)) + ((((x0 - (((x0).toUInt32 >>> (((1 : Int32)).toUInt32 &&& Int32.toUInt32 31)).toInt32 &&& (1431655765 : Int32)))).toUInt32 >>> (((2 : Int32)).toUInt32 &&& Int32.toUInt32 31)).toInt32 &&& (858993459 : Int32)))).toUInt32 >>> (((4 : Int32)).toUInt32 &&& Int32.toUInt32 31)).toInt32) &&& (252645135 : Int32))).toUInt32 >>> (((8 : Int32)).toUInt32 &&& Int32.toUInt32 31)).toInt32))]) hx hb dJ6_bitCount_0f7a4_40 rfl hl (by decide) rfl (fun ls hl => ?_)
  refine lv_iload_n hx hb dJ6_bitCount_0f7a4_41 rfl (lv_at hl 0 rfl) ?_
  refine lv_iload_n hx hb dJ6_bitCount_0f7a4_42 rfl (lv_at hl 0 rfl) ?_
  refine lv_bipush (v := 16) hx hb dJ6_bitCount_0f7a4_43 (by decide) ?_
  refine lv_iushr hx hb dJ6_bitCount_0f7a4_45 rfl ?_
  refine lv_iadd hx hb dJ6_bitCount_0f7a4_46 ?_
  refine lv_istore_n (lv' := [(0, .int (((((((x0 - (((x0).toUInt32 >>> (((1 : Int32)).toUInt32 &&& Int32.toUInt32 31)).toInt32 &&& (1431655765 : Int32))) &&& (858993459 : Int32)) + ((((x0 - (((x0).toUInt32 >>> (((1 : Int32)).toUInt32 &&& Int32.toUInt32 31)).toInt32 &&& (1431655765 : Int32)))).toUInt32 >>> (((2 : Int32)).toUInt32 &&& Int32.toUInt32 31)).toInt32 &&& (858993459 : Int32))) + (((((x0 - (((x0).toUInt32 >>> (((1 : Int32)).toUInt32 &&& Int32.toUInt32 31)).toInt32 &&& (1431655765 : Int32))) &&& (858993459 : Int32)) + ((((x0 - (((x0).toUInt32 >>> (((1 : Int32)).toUInt32 &&& Int32.toUInt32 31)).toInt32 &&& (1431655765 : Int32)))).toUInt32 >>> (((2 : Int32)).toUInt32 &&& Int32.toUInt32 31)).toInt32 &&& (858993459 : Int32)))).toUInt32 >>> (((4 : Int32)).toUInt32 &&& Int32.toUInt32 31)).toInt32) &&& (252645135 : Int32)) + (((((((x0 - (((x0).toUInt32 >>> (((1 : Int32)).toUInt32 &&& Int32.toUInt32 31)).toInt32 &&& (1431655765 : Int32))) &&& (858993459 : Int32)) + ((((x0 - (((x0).toUInt32 >>> (((1 : Int32)).toUInt32 &&& Int32.toUInt32 31)).toInt32 &&& (1431655765 : Int32)))).toUInt32 >>> (((2 : Int32)).toUInt32 &&& Int32.toUInt32 31)).toInt32 &&& (858993459 : Int32))) + (((((x0 - (((x0).toUInt32 >>> (((1 : Int32)).toUInt32 &&& Int32.toUInt32 31)).toInt32 &&& (1431655765 : Int32))) &&& (858993459 : Int32)) + ((((x0 - (((x0).toUInt32 >>> (((1 : Int32)).toUInt32 &&& Int32.toUInt32 31)).toInt32 &&& (1431655765 : Int32)))).toUInt32 >>> (((2 : Int32)).toUInt32 &&& Int32.toUInt32 31)).toInt32 &&& (858993459 : Int32)))).toUInt32 >>> (((4 : Int32)).toUInt32 &&& Int32.toUInt32 31)).toInt32) &&& (252645135 : Int32))).toUInt32 >>> (((8 : Int32)).toUInt32 &&& Int32.toUInt32 31)).toInt32) + ((((((((x0 - (((x0).toUInt32 >>> (((1 : Int32)).toUInt32 &&& Int32.toUInt32 31)).toInt32 &&& (1431655765 : Int32))) &&& (858993459 : Int32)) + ((((x0 - (((x0).toUInt32 >>> (((1 : Int32)).toUInt32 &&& Int32.toUInt32 31)).toInt32 &&& (1431655765 : Int32)))).toUInt32 >>> (((2 : Int32)).toUInt32 &&& Int32.toUInt32 31)).toInt32 &&& (858993459 : Int32))) + (((((x0 - (((x0).toUInt32 >>> (((1 : Int32)).toUInt32 &&& Int32.toUInt32 31)).toInt32 &&& (1431655765 : Int32))) &&& (858993459 : Int32)) + ((((x0 - (((x0).toUInt32 >>> (((1 : Int32)).toUInt32 &&& Int32.toUInt32 31)).toInt32 &&& (1431655765 : Int32)))).toUInt32 >>> (((2 : Int32)).toUInt32 &&& Int32.toUInt32 31)).toInt32 &&& (858993459 : Int32)))).toUInt32 >>> (((4 : Int32)).toUInt32 &&& Int32.toUInt32 31)).toInt32) &&& (252645135 : Int32)) + (((((((x0 - (((x0).toUInt32 >>> (((1 : Int32)).toUInt32 &&& Int32.toUInt32 31)).toInt32 &&& (1431655765 : Int32))) &&& (858993459 : Int32)) + ((((x0 - (((x0).toUInt32 >>> (((1 : Int32)).toUInt32 &&& Int32.toUInt32 31)).toInt32 &&& (1431655765 : Int32)))).toUInt32 >>> (((2 : Int32)).toUInt32 &&& Int32.toUInt32 31)).toInt32 &&& (858993459 : Int32))) + (((((x0 - (((x0).toUInt32 >>> (((1 : Int32)).toUInt32 &&& Int32.toUInt32 31)).toInt32 &&& (1431655765 : Int32))) &&& (858993459 : Int32)) + ((((x0 - (((x0).toUInt32 >>> (((1 : Int32)).toUInt32 &&& Int32.toUInt32 31)).toInt32 &&& (1431655765 : Int32)))).toUInt32 >>> (((2 : Int32)).toUInt32 &&& Int32.toUInt32 31)).toInt32 &&& (858993459 : Int32)))).toUInt32 >>> (((4 : Int32)).toUInt32 &&& Int32.toUInt32 31)).toInt32) &&& (252645135 : Int32))).toUInt32 >>> (((8 : Int32)).toUInt32 &&& Int32.toUInt32 31)).toInt32)).toUInt32 >>> (((16 : Int32)).toUInt32 &&& Int32.toUInt32 31)).toInt32))]) hx hb dJ6_bitCount_0f7a4_47 rfl hl (by decide) rfl (fun ls hl => ?_)
  refine lv_iload_n hx hb dJ6_bitCount_0f7a4_48 rfl (lv_at hl 0 rfl) ?_
  refine lv_bipush (v := 63) hx hb dJ6_bitCount_0f7a4_49 (by decide) ?_
  refine lv_iand hx hb dJ6_bitCount_0f7a4_51 ?_
  exact w_eI hX hr hlk hH ⟨rfl, hq⟩ dJ6_bitCount_0f7a4_52
abbrev rm_X1_notchesBy : Room := { frames := 1, cells := 0, slots := 0, locals := 21 }
theorem hd_X1_notchesBy : yX1_notchesBy.cls = RX1 ∧ yX1_notchesBy.cls ≠ "java/lang/invoke/MethodHandle" ∧ yX1_notchesBy.cls ≠ "java/lang/invoke/VarHandle" ∧ (parseMethodDescriptor yX1_notchesBy.desc).map (fun d => d.parameters.length) = some 1 := by decide +kernel
set_option maxRecDepth 100000 in
set_option maxHeartbeats 4000000 in
theorem s_X1_notchesBy_33 {k : Nat} {x1 : Int32} {I : wI} {Q : Int32 → Prop} (hs : wSh k = (0, 1)) (C0 : wCx p m c s args meth cX1_notchesBy 4 RX1 (some .int) D cs ad b) : ∀ (t0 : Int32) (H : Heap) (locs : List Loc) (ls : Array Slot), v_X1_notchesBy_33 k x1 I Q t0 → wH D cs b G I s H locs → lv_has ls 4 [] → W p l e rm_X1_notchesBy s m args below meth c H locs 0 0 (MQ below (va_Qi (fun r I' => I' = I ∧ Q r) (wPo D cs b G) (fun q => b ≤ q)) args s 0 0 (fun q => b ≤ q)) (F0 m 33 ls [.int t0]) := by
  obtain ⟨hX, hr, hlk, hK, hE⟩ := id C0
  have hx := hX.1
  have hb := hX.2.1
  have hown := hX.2.2.2.1
  have hts := hX.2.2.2.2
  intro t0 H locs ls hq hH hl
  unfold v_X1_notchesBy_33 at hq
  exact w_eI hX hr hlk hH ⟨rfl, hq⟩ dX1_notchesBy_33
set_option maxRecDepth 100000 in
set_option maxHeartbeats 4000000 in
theorem c_X1_notchesBy {l : Launch} {D : va_G} {cs : wC4} {ad : Nat → Nat} {b : Nat} {G : wG} {k : Nat} (hs : wSh k = (0, 1)) (x1 : Int32) (I : wI) (hp : pre_X1_notchesBy k x1 I) : Met l yX1_notchesBy (ws_ yX1_notchesBy cX1_notchesBy 4 (some .int)) rm_X1_notchesBy (va_Pc [.ref (b + k), .int x1] (wPr D cs ad b G I)) (va_Qi (fun r I' => I' = I ∧ post_X1_notchesBy k x1 I r) (wPo D cs b G) (fun q => b ≤ q)) 0 0 (fun q => b ≤ q) := by
  have hq := vc_X1_notchesBy k x1 I hp
  refine w_met (by decide) (Nat.le_of_ble_eq_true rfl) ?_
  intro p e s m below meth c hX hr hlk hK hE hH ls hl
  have C0 : wCx p m c s _ meth cX1_notchesBy 4 RX1 (some .int) D cs ad b := ⟨hX, hr, hlk, hK, hE⟩
  have hX : CallFix p m c cX1_notchesBy 4 s _ lw_all RX1 := hX
  have hx := hX.1
  have hb := hX.2.1
  have hown := hX.2.2.2.1
  have hts := hX.2.2.2.2
  have hl : lv_has ls 4 [(0, .ref (b + k)), (1, .int x1)] := hl
  unfold v_X1_notchesBy at hq
  refine lv_iload_n hx hb dX1_notchesBy_0 rfl (lv_at hl 1 rfl) ?_
  obtain ⟨hp, hq⟩ := hq
  refine w_cIp hH (w_rSN (As := [.int x1]) (rest := []) hX hK hE hH (c_X5_keyOf  _ _ hp) qn2_98 q2_76 q1_1 q2_77 hd_X5_keyOf.2 ⟨Nat.le_of_ble_eq_true rfl, Nat.le_of_ble_eq_true rfl⟩ ⟨rfl, rfl⟩ rfl hl.1 rfl (Nat.le_of_ble_eq_true rfl) dX1_notchesBy_1 ⟨Nat.zero_le _, Nat.zero_le _⟩) (fun r1  H locs hpo hH => ?_)
  have hq := hq r1  hpo
  refine lv_istore_n (lv' := [(2, .int r1), (0, .ref (b + k)), (1, .int x1)]) hx hb dX1_notchesBy_4 rfl hl (by decide) rfl (fun ls hl => ?_)
  refine lv_aload_n hx hb dX1_notchesBy_5 rfl (lv_at hl 1 rfl) ?_
  refine lv_iload_n hx hb dX1_notchesBy_6 rfl (lv_at hl 0 rfl) ?_
  obtain ⟨hp, hq⟩ := hq
  refine w_cIp hH (w_rV (As := [.int r1]) (rest := []) hX hK hE hH (c_X1_strengthOf hs _ _ hp) ck1 hs q2_103 q2_104 q2_105 q1_4 q2_106 hd_X1_strengthOf ⟨Nat.le_of_ble_eq_true rfl, Nat.le_of_ble_eq_true rfl⟩ ⟨rfl, rfl⟩ rfl hl.1 rfl (Nat.le_of_ble_eq_true rfl) dX1_notchesBy_7 ⟨Nat.zero_le _, Nat.zero_le _⟩) (fun r2  H locs hpo hH => ?_)
  have hq := hq r2  hpo
  refine lv_aload_n hx hb dX1_notchesBy_10 rfl (lv_at hl 1 rfl) ?_
  refine lv_iload_n hx hb dX1_notchesBy_11 rfl (lv_at hl 0 rfl) ?_
  obtain ⟨hp, hq⟩ := hq
  refine w_cIp hH (w_rV (As := [.int r1]) (rest := [.int r2]) hX hK hE hH (c_X1_maskOf hs _ _ hp) ck1 hs q2_99 q2_100 q2_101 q1_4 q2_102 hd_X1_maskOf ⟨Nat.le_of_ble_eq_true rfl, Nat.le_of_ble_eq_true rfl⟩ ⟨rfl, rfl⟩ rfl hl.1 rfl (Nat.le_of_ble_eq_true rfl) dX1_notchesBy_12 ⟨Nat.zero_le _, Nat.zero_le _⟩) (fun r3  H locs hpo hH => ?_)
  have hq := hq r3  hpo
  obtain ⟨hp, hq⟩ := hq
  refine w_cIp hH (w_rS (As := [.int r3]) (rest := [.int r2]) hX hK hE hH (c_J_bitCount  _ _ hp) q3_187 q1_239 q1_13 q2_0 hd_J_bitCount.2 ⟨Nat.le_of_ble_eq_true rfl, Nat.le_of_ble_eq_true rfl⟩ ⟨rfl, rfl⟩ rfl hl.1 rfl (Nat.le_of_ble_eq_true rfl) dX1_notchesBy_15 ⟨Nat.zero_le _, Nat.zero_le _⟩) (fun r4  H locs hpo hH => ?_)
  have hq := hq r4  hpo
  refine lv_imul hx hb dX1_notchesBy_18 ?_
  refine lv_istore_n (lv' := [(3, .int (r2 * r4)), (2, .int r1), (0, .ref (b + k)), (1, .int x1)]) hx hb dX1_notchesBy_19 rfl hl (by decide) rfl (fun ls hl => ?_)
  refine lv_iload_n hx hb dX1_notchesBy_20 rfl (lv_at hl 3 rfl) ?_
  obtain ⟨hp, hq⟩ := hq
  refine w_cIp hH (w_rSN (As := [.int x1]) (rest := []) hX hK hE hH (c_X5_isBack  _ _ hp) qn2_107 q2_79 q1_1 q2_80 hd_X5_isBack.2 ⟨Nat.le_of_ble_eq_true rfl, Nat.le_of_ble_eq_true rfl⟩ ⟨rfl, rfl⟩ rfl hl.1 rfl (Nat.le_of_ble_eq_true rfl) dX1_notchesBy_21 ⟨Nat.zero_le _, Nat.zero_le _⟩) (fun r5  H locs hpo hH => ?_)
  have hq := hq r5  hpo
  refine lv_if_eq (tgt := 32) hx hb dX1_notchesBy_24 (by decide) (fun hc => ?_) (fun hc => ?_)
  · have hq := hq.1 hc
    refine lv_iload_n hx hb dX1_notchesBy_32 rfl (lv_at hl 0 rfl) ?_
    exact s_X1_notchesBy_33 hs C0  (r2 * r4) _ _ _ hq hH (lv_sub hl [] rfl)
  · have hq := hq.2 hc
    refine lv_iload_n hx hb dX1_notchesBy_27 rfl (lv_at hl 0 rfl) ?_
    refine lv_ineg hx hb dX1_notchesBy_28 ?_
    refine lv_goto (tgt := 33) hx hb dX1_notchesBy_29 (by decide) ?_
    exact s_X1_notchesBy_33 hs C0  (-(r2 * r4)) _ _ _ hq hH (lv_sub hl [] rfl)
abbrev rm_J_floorMod : Room := { frames := 0, cells := 0, slots := 0, locals := 0 }
theorem hd_J_floorMod : yJ9_floorMod_7cf53.cls = RJ9 ∧ yJ9_floorMod_7cf53.cls ≠ "java/lang/invoke/MethodHandle" ∧ yJ9_floorMod_7cf53.cls ≠ "java/lang/invoke/VarHandle" ∧ (parseMethodDescriptor yJ9_floorMod_7cf53.desc).map (fun d => d.parameters.length) = some 2 := by decide +kernel
set_option maxRecDepth 100000 in
set_option maxHeartbeats 4000000 in
theorem s_J_floorMod_18 {x0 : Int32} {x1 : Int32} {I : wI} {Q : Int32 → Prop} (C0 : wCx p m c s args meth cJ9_floorMod_7cf53 3 RJ9 (some .int) D cs ad b) : ∀ (v2 : Int32) (H : Heap) (locs : List Loc) (ls : Array Slot), v_J_floorMod_18 x0 x1 I Q v2 → wH D cs b G I s H locs → lv_has ls 3 [(2, .int v2)] → W p l e rm_J_floorMod s m args below meth c H locs 0 0 (MQ below (va_Qi (fun r I' => I' = I ∧ Q r) (wPo D cs b G) (fun q => b ≤ q)) args s 0 0 (fun q => b ≤ q)) (F0 m 18 ls []) := by
  obtain ⟨hX, hr, hlk, hK, hE⟩ := id C0
  have hx := hX.1
  have hb := hX.2.1
  have hown := hX.2.2.2.1
  have hts := hX.2.2.2.2
  intro v2 H locs ls hq hH hl
  unfold v_J_floorMod_18 at hq
  refine lv_iload_n hx hb dJ9_floorMod_7cf53_18 rfl (lv_at hl 0 rfl) ?_
  exact w_eI hX hr hlk hH ⟨rfl, hq⟩ dJ9_floorMod_7cf53_19
set_option maxRecDepth 100000 in
set_option maxHeartbeats 4000000 in
theorem c_J_floorMod {l : Launch} {D : va_G} {cs : wC4} {ad : Nat → Nat} {b : Nat} {G : wG} (x0 : Int32) (x1 : Int32) (I : wI) (hp : pre_J_floorMod x0 x1 I) : Met l yJ9_floorMod_7cf53 (ws_ yJ9_floorMod_7cf53 cJ9_floorMod_7cf53 3 (some .int)) rm_J_floorMod (va_Pc [.int x0, .int x1] (wPr D cs ad b G I)) (va_Qi (fun r I' => I' = I ∧ post_J_floorMod x0 x1 I r) (wPo D cs b G) (fun q => b ≤ q)) 0 0 (fun q => b ≤ q) := by
  have hq := vc_J_floorMod x0 x1 I hp
  refine w_metF (by decide +kernel) (Nat.le_of_ble_eq_true rfl) ?_
  intro p e s m below meth c hX hr hlk hK hE hH ls hl
  have C0 : wCx p m c s _ meth cJ9_floorMod_7cf53 3 RJ9 (some .int) D cs ad b := ⟨hX, hr, hlk, hK, hE⟩
  have hX : CallFix p m c cJ9_floorMod_7cf53 3 s _ lw_all RJ9 := hX
  have hx := hX.1
  have hb := hX.2.1
  have hown := hX.2.2.2.1
  have hts := hX.2.2.2.2
  have hl : lv_has ls 3 [(0, .int x0), (1, .int x1)] := hl
  unfold v_J_floorMod at hq
  refine lv_iload_n hx hb dJ9_floorMod_7cf53_0 rfl (lv_at hl 0 rfl) ?_
  refine lv_iload_n hx hb dJ9_floorMod_7cf53_1 rfl (lv_at hl 1 rfl) ?_
  obtain ⟨hc, hq⟩ := hq
  refine lv_irem hx hb dJ9_floorMod_7cf53_2 hc ?_
  refine lv_istore_n (lv' := [(2, .int (x0 - x0 / x1 * x1)), (0, .int x0), (1, .int x1)]) hx hb dJ9_floorMod_7cf53_3 rfl hl (by decide) rfl (fun ls hl => ?_)
  refine lv_iload_n hx hb dJ9_floorMod_7cf53_4 rfl (lv_at hl 1 rfl) ?_
  refine lv_iload_n hx hb dJ9_floorMod_7cf53_5 rfl (lv_at hl 2 rfl) ?_
  refine lv_ixor hx hb dJ9_floorMod_7cf53_6 ?_
  refine lv_if_ge (tgt := 18) hx hb dJ9_floorMod_7cf53_7 (by decide) (fun hc => ?_) (fun hc => ?_)
  · have hq := hq.1 hc
    exact s_J_floorMod_18  C0  (x0 - x0 / x1 * x1) _ _ _ hq hH (lv_sub hl [0] rfl)
  · have hq := hq.2 hc
    refine lv_iload_n hx hb dJ9_floorMod_7cf53_10 rfl (lv_at hl 0 rfl) ?_
    refine lv_if_eq (tgt := 18) hx hb dJ9_floorMod_7cf53_11 (by decide) (fun hc => ?_) (fun hc => ?_)
    · have hq := hq.1 hc
      exact s_J_floorMod_18  C0  (x0 - x0 / x1 * x1) _ _ _ hq hH (lv_sub hl [0] rfl)
    · have hq := hq.2 hc
      refine lv_iload_n hx hb dJ9_floorMod_7cf53_14 rfl (lv_at hl 0 rfl) ?_
      refine lv_iload_n hx hb dJ9_floorMod_7cf53_15 rfl (lv_at hl 2 rfl) ?_
      refine lv_iadd hx hb dJ9_floorMod_7cf53_16 ?_
      exact w_eI hX hr hlk hH ⟨rfl, hq⟩ dJ9_floorMod_7cf53_17
abbrev rm_X3_doMove : Room := { frames := 3, cells := 0, slots := 0, locals := 64 }
theorem hd_X3_doMove : yX3_doMove.cls = RX3 ∧ yX3_doMove.cls ≠ "java/lang/invoke/MethodHandle" ∧ yX3_doMove.cls ≠ "java/lang/invoke/VarHandle" ∧ (parseMethodDescriptor yX3_doMove.desc).map (fun d => d.parameters.length) = some 1 := by decide +kernel
set_option maxRecDepth 100000 in
set_option maxHeartbeats 4000000 in
theorem s_X3_doMove_93 {k : Nat} {x1 : Int32} {Q : wI → Prop} (hs : wSh k = (0, 3)) (C0 : wCx p m c s args meth cX3_doMove 4 RX3 none D cs ad b) : ∀  (I : wI) (H : Heap) (locs : List Loc) (ls : Array Slot), v_X3_doMove_93 k x1 Q  I → wH D cs b G I s H locs → lv_has ls 4 [] → W p l e rm_X3_doMove s m args below meth c H locs 0 0 (MQ below (va_Qv (Q) (wPo D cs b G) (fun q => b ≤ q)) args s 0 0 (fun q => b ≤ q)) (F0 m 93 ls []) := by
  obtain ⟨hX, hr, hlk, hK, hE⟩ := id C0
  have hx := hX.1
  have hb := hX.2.1
  have hown := hX.2.2.2.1
  have hts := hX.2.2.2.2
  intro  I H locs ls hq hH hl
  unfold v_X3_doMove_93 at hq
  exact w_eV hX hr hlk hH hq dX3_doMove_93
set_option maxRecDepth 100000 in
set_option maxHeartbeats 4000000 in
theorem s_X3_doMove_72 {k : Nat} {x1 : Int32} {Q : wI → Prop} (hs : wSh k = (0, 3)) (C0 : wCx p m c s args meth cX3_doMove 4 RX3 none D cs ad b) : ∀ (v2 : Int32) (I : wI) (H : Heap) (locs : List Loc) (ls : Array Slot), v_X3_doMove_72 k x1 Q v2 I → wH D cs b G I s H locs → lv_has ls 4 [(0, .ref (b + k)), (2, .int v2)] → W p l e rm_X3_doMove s m args below meth c H locs 0 0 (MQ below (va_Qv (Q) (wPo D cs b G) (fun q => b ≤ q)) args s 0 0 (fun q => b ≤ q)) (F0 m 72 ls []) := by
  obtain ⟨hX, hr, hlk, hK, hE⟩ := id C0
  have hx := hX.1
  have hb := hX.2.1
  have hown := hX.2.2.2.1
  have hts := hX.2.2.2.2
  intro v2 I H locs ls hq hH hl
  unfold v_X3_doMove_72 at hq
  refine lv_iload_n hx hb dX3_doMove_72 rfl (lv_at hl 1 rfl) ?_
  refine lv_if_ne (tgt := 93) hx hb dX3_doMove_73 (by decide) (fun hc => ?_) (fun hc => ?_)
  · have hq := hq.1 hc
    exact s_X3_doMove_93 hs C0   _ _ _ _ hq hH (lv_sub hl [] rfl)
  · have hq := hq.2 hc
    refine lv_aload_n hx hb dX3_doMove_76 rfl (lv_at hl 0 rfl) ?_
    obtain ⟨hp, hq⟩ := hq
    refine w_cIp hH (w_rV (As := []) (rest := []) hX hK hE hH (c_X3_opens hs  _ hp) ck3 hs q3_181 q2_140 q2_141 q1_2 q2_142 hd_X3_opens ⟨Nat.le_of_ble_eq_true rfl, Nat.le_of_ble_eq_true rfl⟩ ⟨rfl, rfl⟩ rfl hl.1 rfl (Nat.le_of_ble_eq_true rfl) dX3_doMove_77 ⟨Nat.zero_le _, Nat.zero_le _⟩) (fun r1  H locs hpo hH => ?_)
    have hq := hq r1  hpo
    refine lv_if_eq (tgt := 93) hx hb dX3_doMove_80 (by decide) (fun hc => ?_) (fun hc => ?_)
    · have hq := hq.1 hc
      exact s_X3_doMove_93 hs C0   _ _ _ _ hq hH (lv_sub hl [] rfl)
    · have hq := hq.2 hc
      refine lv_aload_n hx hb dX3_doMove_83 rfl (lv_at hl 0 rfl) ?_
      refine lv_dup hx hb dX3_doMove_84 rfl ?_
      refine w_geti hX hK hH ck3 hs 8 fi3_8 q1_78 dX3_doMove_85 ?_
      refine lv_iconst (v := 1) hx hb dX3_doMove_88 (by decide) ?_
      refine lv_iadd hx hb dX3_doMove_89 ?_
      refine w_puti hX hK hH ck3 hs 8 fw3_8 q1_78 dX3_doMove_90 (fun I2 H locs hI hH => ?_)
      have hq := hq I2 hI
      exact s_X3_doMove_93 hs C0   _ _ _ _ hq hH (lv_sub hl [] rfl)
set_option maxRecDepth 100000 in
set_option maxHeartbeats 4000000 in
theorem c_X3_doMove {l : Launch} {D : va_G} {cs : wC4} {ad : Nat → Nat} {b : Nat} {G : wG} {k : Nat} (hs : wSh k = (0, 3)) (x1 : Int32) (I : wI) (hp : pre_X3_doMove k x1 I) : Met l yX3_doMove (ws_ yX3_doMove cX3_doMove 4 none) rm_X3_doMove (va_Pc [.ref (b + k), .int x1] (wPr D cs ad b G I)) (va_Qv (fun I' => post_X3_doMove k x1 I I') (wPo D cs b G) (fun q => b ≤ q)) 0 0 (fun q => b ≤ q) := by
  have hq := vc_X3_doMove k x1 I hp
  refine w_met (by decide) (Nat.le_of_ble_eq_true rfl) ?_
  intro p e s m below meth c hX hr hlk hK hE hH ls hl
  have C0 : wCx p m c s _ meth cX3_doMove 4 RX3 none D cs ad b := ⟨hX, hr, hlk, hK, hE⟩
  have hX : CallFix p m c cX3_doMove 4 s _ lw_all RX3 := hX
  have hx := hX.1
  have hb := hX.2.1
  have hown := hX.2.2.2.1
  have hts := hX.2.2.2.2
  have hl : lv_has ls 4 [(0, .ref (b + k)), (1, .int x1)] := hl
  unfold v_X3_doMove at hq
  refine lv_aload_n hx hb dX3_doMove_0 rfl (lv_at hl 0 rfl) ?_
  obtain ⟨hp, hq⟩ := hq
  refine w_cIp hH (w_rV (As := []) (rest := []) hX hK hE hH (c_X3_opens hs  _ hp) ck3 hs q3_181 q2_140 q2_141 q1_2 q2_142 hd_X3_opens ⟨Nat.le_of_ble_eq_true rfl, Nat.le_of_ble_eq_true rfl⟩ ⟨rfl, rfl⟩ rfl hl.1 rfl (Nat.le_of_ble_eq_true rfl) dX3_doMove_1 ⟨Nat.zero_le _, Nat.zero_le _⟩) (fun r1  H locs hpo hH => ?_)
  have hq := hq r1  hpo
  refine lv_istore_n (lv' := [(2, .int r1), (0, .ref (b + k)), (1, .int x1)]) hx hb dX3_doMove_4 rfl hl (by decide) rfl (fun ls hl => ?_)
  refine lv_aload_n hx hb dX3_doMove_5 rfl (lv_at hl 1 rfl) ?_
  refine w_getr hX hK hH ck3 hs 1 4 (k + 4) fr3_1 rfl q1_62 dX3_doMove_6 ?_
  refine lv_aload_n hx hb dX3_doMove_9 rfl (lv_at hl 1 rfl) ?_
  refine w_getr hX hK hH ck3 hs 0 1 (k + 1) fr3_0 rfl q1_59 dX3_doMove_10 ?_
  refine lv_iload_n hx hb dX3_doMove_13 rfl (lv_at hl 2 rfl) ?_
  obtain ⟨hp, hq⟩ := hq
  refine w_cV hH (w_rV (As := [.ref (b + (k + 1)), .int x1]) (rest := []) hX hK hE hH (c_X1_move (sf3_1 hs) (sf3_0 hs) _ _ hp) ck1 (sf3_1 hs) q3_182 q2_95 q2_96 q1_4 q2_97 hd_X1_move ⟨Nat.le_of_ble_eq_true rfl, Nat.le_of_ble_eq_true rfl⟩ ⟨rfl, rfl⟩ rfl hl.1 rfl (Nat.le_of_ble_eq_true rfl) dX3_doMove_14 ⟨Nat.zero_le _, Nat.zero_le _⟩) (fun  I2 H locs hpo hH => ?_)
  have hq := hq  I2 hpo
  refine lv_aload_n hx hb dX3_doMove_17 rfl (lv_at hl 1 rfl) ?_
  refine lv_aload_n hx hb dX3_doMove_18 rfl (lv_at hl 1 rfl) ?_
  refine w_geti hX hK hH ck3 hs 7 fi3_7 q1_76 dX3_doMove_19 ?_
  refine lv_aload_n hx hb dX3_doMove_22 rfl (lv_at hl 1 rfl) ?_
  refine w_getr hX hK hH ck3 hs 1 4 (k + 4) fr3_1 rfl q1_62 dX3_doMove_23 ?_
  refine lv_iload_n hx hb dX3_doMove_26 rfl (lv_at hl 2 rfl) ?_
  obtain ⟨hp, hq⟩ := hq
  refine w_cIp hH (w_rV (As := [.int x1]) (rest := [.int (I2 k 7), .ref (b + k)]) hX hK hE hH (c_X1_notchesBy (sf3_1 hs) _ _ hp) ck1 (sf3_1 hs) q3_183 q3_184 q3_185 q1_4 q3_186 hd_X1_notchesBy ⟨Nat.le_of_ble_eq_true rfl, Nat.le_of_ble_eq_true rfl⟩ ⟨rfl, rfl⟩ rfl hl.1 rfl (Nat.le_of_ble_eq_true rfl) dX3_doMove_27 ⟨Nat.zero_le _, Nat.zero_le _⟩) (fun r3  H locs hpo hH => ?_)
  have hq := hq r3  hpo
  refine lv_iadd hx hb dX3_doMove_30 ?_
  refine lv_iconst (v := 5) hx hb dX3_doMove_31 (by decide) ?_
  obtain ⟨hp, hq⟩ := hq
  refine w_cIp hH (w_rS (As := [.int ((I2 k 7) + r3), .int (5 : Int32)]) (rest := [.ref (b + k)]) hX hK hE hH (c_J_floorMod  _ _ _ hp) q3_188 q3_189 q1_14 q3_190 hd_J_floorMod.2 ⟨Nat.le_of_ble_eq_true rfl, Nat.le_of_ble_eq_true rfl⟩ ⟨rfl, rfl⟩ rfl hl.1 rfl (Nat.le_of_ble_eq_true rfl) dX3_doMove_32 ⟨Nat.zero_le _, Nat.zero_le _⟩) (fun r4  H locs hpo hH => ?_)
  have hq := hq r4  hpo
  refine w_puti hX hK hH ck3 hs 7 fw3_7 q1_76 dX3_doMove_35 (fun I5 H locs hI hH => ?_)
  have hq := hq I5 hI
  refine lv_aload_n hx hb dX3_doMove_38 rfl (lv_at hl 1 rfl) ?_
  refine lv_dup hx hb dX3_doMove_39 rfl ?_
  refine w_geti hX hK hH ck3 hs 6 fi3_6 q1_74 dX3_doMove_40 ?_
  refine lv_iconst (v := 1) hx hb dX3_doMove_43 (by decide) ?_
  refine lv_iadd hx hb dX3_doMove_44 ?_
  refine w_puti hX hK hH ck3 hs 6 fw3_6 q1_74 dX3_doMove_45 (fun I6 H locs hI hH => ?_)
  have hq := hq I6 hI
  refine lv_iload_n hx hb dX3_doMove_48 rfl (lv_at hl 2 rfl) ?_
  obtain ⟨hp, hq⟩ := hq
  refine w_cIp hH (w_rSN (As := [.int x1]) (rest := []) hX hK hE hH (c_X5_keyOf  _ _ hp) qn2_152 q2_76 q1_1 q2_77 hd_X5_keyOf.2 ⟨Nat.le_of_ble_eq_true rfl, Nat.le_of_ble_eq_true rfl⟩ ⟨rfl, rfl⟩ rfl hl.1 rfl (Nat.le_of_ble_eq_true rfl) dX3_doMove_49 ⟨Nat.zero_le _, Nat.zero_le _⟩) (fun r7  H locs hpo hH => ?_)
  have hq := hq r7  hpo
  refine lv_istore_n (lv' := [(3, .int r7), (2, .int r1), (0, .ref (b + k)), (1, .int x1)]) hx hb dX3_doMove_52 rfl hl (by decide) rfl (fun ls hl => ?_)
  refine lv_iload_n hx hb dX3_doMove_53 rfl (lv_at hl 0 rfl) ?_
  refine lv_if_lt (tgt := 72) hx hb dX3_doMove_54 (by decide) (fun hc => ?_) (fun hc => ?_)
  · have hq := hq.1 hc
    exact s_X3_doMove_72 hs C0  r1 _ _ _ _ hq hH (lv_sub hl [2, 1] rfl)
  · have hq := hq.2 hc
    refine lv_iload_n hx hb dX3_doMove_57 rfl (lv_at hl 0 rfl) ?_
    refine lv_iconst (v := 5) hx hb dX3_doMove_58 (by decide) ?_
    refine lv_icmp_ge (tgt := 72) hx hb dX3_doMove_59 (by decide) (fun hc => ?_) (fun hc => ?_)
    · have hq := hq.1 hc
      exact s_X3_doMove_72 hs C0  r1 _ _ _ _ hq hH (lv_sub hl [2, 1] rfl)
    · have hq := hq.2 hc
      refine lv_aload_n hx hb dX3_doMove_62 rfl (lv_at hl 2 rfl) ?_
      refine w_getr hX hK hH ck3 hs 5 10 (k + 10) fr3_5 rfl q1_73 dX3_doMove_63 ?_
      refine lv_iload_n hx hb dX3_doMove_66 rfl (lv_at hl 0 rfl) ?_
      refine lv_dup2_11 hx hb dX3_doMove_67 rfl rfl ?_
      obtain ⟨hc, hq⟩ := hq
      refine w_iald hX hK hH (sf3_5 hs) hc dX3_doMove_68 ?_
      refine lv_iconst (v := 1) hx hb dX3_doMove_69 (by decide) ?_
      refine lv_iadd hx hb dX3_doMove_70 ?_
      obtain ⟨hc, hq⟩ := hq
      refine w_iast hX hK hH (sf3_5 hs) hc dX3_doMove_71 (fun I8 H locs hI hH => ?_)
      have hq := hq I8 hI
      exact s_X3_doMove_72 hs C0  r1 _ _ _ _ hq hH (lv_sub hl [2, 1] rfl)
abbrev rm_X5_turnOnce : Room := { frames := 9, cells := 0, slots := 0, locals := 140 }
theorem hd_X5_turnOnce : yX5_turnOnce.cls = RX5 ∧ yX5_turnOnce.cls ≠ "java/lang/invoke/MethodHandle" ∧ yX5_turnOnce.cls ≠ "java/lang/invoke/VarHandle" ∧ (parseMethodDescriptor yX5_turnOnce.desc).map (fun d => d.parameters.length) = some 2 := by decide +kernel
set_option maxRecDepth 100000 in
set_option maxHeartbeats 4000000 in
theorem c_X5_turnOnce {l : Launch} {D : va_G} {cs : wC4} {ad : Nat → Nat} {b : Nat} {G : wG} (x1 : Int32) (x2 : Int32) (I : wI) (hp : pre_X5_turnOnce x1 x2 I) : Met l yX5_turnOnce (ws_ yX5_turnOnce cX5_turnOnce 4 (some .int)) rm_X5_turnOnce (va_Pc [.ref (b + 0), .int x1, .int x2] (wPr D cs ad b G I)) (va_Qi (fun r I' => post_X5_turnOnce x1 x2 I r I') (wPo D cs b G) (fun q => b ≤ q)) 0 0 (fun q => b ≤ q) := by
  have hq := vc_X5_turnOnce x1 x2 I hp
  refine w_met (by decide) (Nat.le_of_ble_eq_true rfl) ?_
  intro p e s m below meth c hX hr hlk hK hE hH ls hl
  have C0 : wCx p m c s _ meth cX5_turnOnce 4 RX5 (some .int) D cs ad b := ⟨hX, hr, hlk, hK, hE⟩
  have hX : CallFix p m c cX5_turnOnce 4 s _ lw_all RX5 := hX
  have hx := hX.1
  have hb := hX.2.1
  have hown := hX.2.2.2.1
  have hts := hX.2.2.2.2
  have hl : lv_has ls 4 [(0, .ref (b + 0)), (1, .int x1), (2, .int x2)] := hl
  unfold v_X5_turnOnce at hq
  refine lv_iload_n hx hb dX5_turnOnce_0 rfl (lv_at hl 1 rfl) ?_
  obtain ⟨hp, hq⟩ := hq
  refine w_cVp hH (w_rS (As := [.int x1]) (rest := []) hX hK hE hH (c_X5_requireKey  _ _ hp) q3_40 q3_41 q1_1 q3_42 hd_X5_requireKey.2 ⟨Nat.le_of_ble_eq_true rfl, Nat.le_of_ble_eq_true rfl⟩ ⟨rfl, rfl⟩ rfl hl.1 rfl (Nat.le_of_ble_eq_true rfl) dX5_turnOnce_1 ⟨Nat.zero_le _, Nat.zero_le _⟩) (fun   H locs hpo hH => ?_)
  have hq := hq   hpo
  refine lv_iload_n hx hb dX5_turnOnce_4 rfl (lv_at hl 1 rfl) ?_
  refine lv_iload_n hx hb dX5_turnOnce_5 rfl (lv_at hl 2 rfl) ?_
  obtain ⟨hp, hq⟩ := hq
  refine w_cIp hH (w_rS (As := [.int x1, .int x2]) (rest := []) hX hK hE hH (c_X5_moveOf  _ _ _ hp) q2_81 q2_54 q1_1 q2_55 hd_X5_moveOf.2 ⟨Nat.le_of_ble_eq_true rfl, Nat.le_of_ble_eq_true rfl⟩ ⟨rfl, rfl⟩ rfl hl.1 rfl (Nat.le_of_ble_eq_true rfl) dX5_turnOnce_6 ⟨Nat.zero_le _, Nat.zero_le _⟩) (fun r1  H locs hpo hH => ?_)
  have hq := hq r1  hpo
  refine lv_istore_n (lv' := [(3, .int r1), (0, .ref (b + 0)), (1, .int x1), (2, .int x2)]) hx hb dX5_turnOnce_9 rfl hl (by decide) rfl (fun ls hl => ?_)
  refine lv_aload_n hx hb dX5_turnOnce_10 rfl (lv_at hl 1 rfl) ?_
  refine w_getr hX hK hH ck5 sh0 0 1 1 fr5_0 rfl q1_178 dX5_turnOnce_11 ?_
  refine lv_iload_n hx hb dX5_turnOnce_14 rfl (lv_at hl 0 rfl) ?_
  obtain ⟨hp, hq⟩ := hq
  refine w_cIp hH (w_rV (As := [.int r1]) (rest := []) hX hK hE hH (c_X3_allows (sf5_0 sh0) _ _ hp) ck3 (sf5_0 sh0) q3_70 q2_149 q2_150 q1_2 q2_151 hd_X3_allows ⟨Nat.le_of_ble_eq_true rfl, Nat.le_of_ble_eq_true rfl⟩ ⟨rfl, rfl⟩ rfl hl.1 rfl (Nat.le_of_ble_eq_true rfl) dX5_turnOnce_15 ⟨Nat.zero_le _, Nat.zero_le _⟩) (fun r2  H locs hpo hH => ?_)
  have hq := hq r2  hpo
  refine lv_if_ne (tgt := 32) hx hb dX5_turnOnce_18 (by decide) (fun hc => ?_) (fun hc => ?_)
  · have hq := hq.1 hc
    refine lv_aload_n hx hb dX5_turnOnce_32 rfl (lv_at hl 1 rfl) ?_
    obtain ⟨hp, hq⟩ := hq
    refine w_cV hH (w_rV (As := []) (rest := []) hX hK hE hH (c_X5_save   _ hp) ck5 sh0 q1_210 q1_212 qs0 q1_1 q1_213 hd_X5_save ⟨Nat.le_of_ble_eq_true rfl, Nat.le_of_ble_eq_true rfl⟩ ⟨rfl, rfl⟩ rfl hl.1 rfl (Nat.le_of_ble_eq_true rfl) dX5_turnOnce_33 ⟨Nat.zero_le _, Nat.zero_le _⟩) (fun  I3 H locs hpo hH => ?_)
    have hq := hq  I3 hpo
    refine lv_aload_n hx hb dX5_turnOnce_36 rfl (lv_at hl 1 rfl) ?_
    refine w_getr hX hK hH ck5 sh0 0 1 1 fr5_0 rfl q1_178 dX5_turnOnce_37 ?_
    refine lv_iload_n hx hb dX5_turnOnce_40 rfl (lv_at hl 0 rfl) ?_
    obtain ⟨hp, hq⟩ := hq
    refine w_cV hH (w_rV (As := [.int r1]) (rest := []) hX hK hE hH (c_X3_doMove (sf5_0 sh0) _ _ hp) ck3 (sf5_0 sh0) q3_177 q3_178 q3_179 q1_2 q3_180 hd_X3_doMove ⟨Nat.le_of_ble_eq_true rfl, Nat.le_of_ble_eq_true rfl⟩ ⟨rfl, rfl⟩ rfl hl.1 rfl (Nat.le_of_ble_eq_true rfl) dX5_turnOnce_41 ⟨Nat.zero_le _, Nat.zero_le _⟩) (fun  I4 H locs hpo hH => ?_)
    have hq := hq  I4 hpo
    refine lv_aload_n hx hb dX5_turnOnce_44 rfl (lv_at hl 1 rfl) ?_
    refine w_getr hX hK hH ck5 sh0 0 1 1 fr5_0 rfl q1_178 dX5_turnOnce_45 ?_
    refine lv_aload_n hx hb dX5_turnOnce_48 rfl (lv_at hl 1 rfl) ?_
    refine w_getr hX hK hH ck5 sh0 0 1 1 fr5_0 rfl q1_178 dX5_turnOnce_49 ?_
    refine w_getrN hX hK hE hH ck3 (sf5_0 sh0) 0 1 2 fr3_0 rfl qn1_61 dX5_turnOnce_52 ?_
    obtain ⟨hp, hq⟩ := hq
    refine w_cIp hH (w_rV (As := [.ref (b + 2)]) (rest := []) hX hK hE hH (c_X3_asInSecret (sf5_0 sh0) (sf3_0 (sf5_0 sh0))  _ hp) ck3 (sf5_0 sh0) q2_116 q2_117 q2_118 q1_2 q2_119 hd_X3_asInSecret ⟨Nat.le_of_ble_eq_true rfl, Nat.le_of_ble_eq_true rfl⟩ ⟨rfl, rfl⟩ rfl hl.1 rfl (Nat.le_of_ble_eq_true rfl) dX5_turnOnce_55 ⟨Nat.zero_le _, Nat.zero_le _⟩) (fun r5  H locs hpo hH => ?_)
    have hq := hq r5  hpo
    exact w_eI hX hr hlk hH hq dX5_turnOnce_58
  · have hq := hq.2 hc
    exact hq.elim
abbrev rm_X5_turnOncex : Room := { frames := 9, cells := 1, slots := 6, locals := 140 }

set_option maxRecDepth 100000 in
set_option maxHeartbeats 4000000 in
theorem c_X5_turnOncex {l : Launch} {D : va_G} {cs : wC4} {ad : Nat → Nat} {b : Nat} {G : wG} (hst : l.stackTraces = false) (x1 : Int32) (x2 : Int32) (I : wI) (hp : pre_X5_turnOncex x1 x2 I) : vx_Met l yX5_turnOnce (ws_ yX5_turnOnce cX5_turnOnce 4 (some .int)) rm_X5_turnOncex (va_Pc [.ref (b + 0), .int x1, .int x2] (wPr D cs ad b G I)) (va_Qi (fun (_ : Int32) (_ : wI) => False) (wPo D cs b G) (fun q => b ≤ q)) (wXC D cs b G (exc_X5_turnOnce x1 x2 I)) 1 6 (fun q => b ≤ q) := by
  have hq := vc_X5_turnOncex x1 x2 I hp
  refine w_metx (by decide) (Nat.le_of_ble_eq_true rfl) ?_
  intro p e s m below meth c hX hr hlk hEx hK hE hH ls hl
  have C0 : wCx p m c s _ meth cX5_turnOnce 4 RX5 (some .int) D cs ad b := ⟨hX, hr, hlk, hK, hE⟩
  have hX : CallFix p m c cX5_turnOnce 4 s _ lw_all RX5 := hX
  have hx := hX.1
  have hb := hX.2.1
  have hown := hX.2.2.2.1
  have hts := hX.2.2.2.2
  have hl : lv_has ls 4 [(0, .ref (b + 0)), (1, .int x1), (2, .int x2)] := hl
  unfold v_X5_turnOncex at hq
  refine lv_iload_n hx hb dX5_turnOnce_0 rfl (lv_at hl 1 rfl) ?_
  by_cases hok : ok_X5_requireKey x1 I
  · have hq := hq.1 hok
    obtain ⟨hp, hq⟩ := hq
    refine w_cVp hH (w_rS (As := [.int x1]) (rest := []) hX hK hE hH (c_X5_requireKey  _ _ hp) q3_40 q3_41 q1_1 q3_42 hd_X5_requireKey.2 ⟨Nat.le_of_ble_eq_true rfl, Nat.le_of_ble_eq_true rfl⟩ ⟨rfl, rfl⟩ rfl hl.1 rfl (Nat.le_of_ble_eq_true rfl) dX5_turnOnce_1 ⟨Nat.zero_le _, Nat.zero_le _⟩) (fun   H locs hpo hH => ?_)
    have hq := hq   hpo
    refine lv_iload_n hx hb dX5_turnOnce_4 rfl (lv_at hl 1 rfl) ?_
    refine lv_iload_n hx hb dX5_turnOnce_5 rfl (lv_at hl 2 rfl) ?_
    obtain ⟨hp, hq⟩ := hq
    refine w_cIp hH (w_rS (As := [.int x1, .int x2]) (rest := []) hX hK hE hH (c_X5_moveOf  _ _ _ hp) q2_81 q2_54 q1_1 q2_55 hd_X5_moveOf.2 ⟨Nat.le_of_ble_eq_true rfl, Nat.le_of_ble_eq_true rfl⟩ ⟨rfl, rfl⟩ rfl hl.1 rfl (Nat.le_of_ble_eq_true rfl) dX5_turnOnce_6 ⟨Nat.zero_le _, Nat.zero_le _⟩) (fun r1  H locs hpo hH => ?_)
    have hq := hq r1  hpo
    refine lv_istore_n (lv' := [(3, .int r1), (0, .ref (b + 0)), (1, .int x1), (2, .int x2)]) hx hb dX5_turnOnce_9 rfl hl (by decide) rfl (fun ls hl => ?_)
    refine lv_aload_n hx hb dX5_turnOnce_10 rfl (lv_at hl 1 rfl) ?_
    refine w_getr hX hK hH ck5 sh0 0 1 1 fr5_0 rfl q1_178 dX5_turnOnce_11 ?_
    refine lv_iload_n hx hb dX5_turnOnce_14 rfl (lv_at hl 0 rfl) ?_
    obtain ⟨hp, hq⟩ := hq
    refine w_cIp hH (w_rV (As := [.int r1]) (rest := []) hX hK hE hH (c_X3_allows (sf5_0 sh0) _ _ hp) ck3 (sf5_0 sh0) q3_70 q2_149 q2_150 q1_2 q2_151 hd_X3_allows ⟨Nat.le_of_ble_eq_true rfl, Nat.le_of_ble_eq_true rfl⟩ ⟨rfl, rfl⟩ rfl hl.1 rfl (Nat.le_of_ble_eq_true rfl) dX5_turnOnce_15 ⟨Nat.zero_le _, Nat.zero_le _⟩) (fun r2  H locs hpo hH => ?_)
    have hq := hq r2  hpo
    refine lv_if_ne (tgt := 32) hx hb dX5_turnOnce_18 (by decide) (fun hc => ?_) (fun hc => ?_)
    · have hq := hq.1 hc
      refine lv_aload_n hx hb dX5_turnOnce_32 rfl (lv_at hl 1 rfl) ?_
      obtain ⟨hp, hq⟩ := hq
      refine w_cV hH (w_rV (As := []) (rest := []) hX hK hE hH (c_X5_save   _ hp) ck5 sh0 q1_210 q1_212 qs0 q1_1 q1_213 hd_X5_save ⟨Nat.le_of_ble_eq_true rfl, Nat.le_of_ble_eq_true rfl⟩ ⟨rfl, rfl⟩ rfl hl.1 rfl (Nat.le_of_ble_eq_true rfl) dX5_turnOnce_33 ⟨Nat.zero_le _, Nat.zero_le _⟩) (fun  I3 H locs hpo hH => ?_)
      have hq := hq  I3 hpo
      refine lv_aload_n hx hb dX5_turnOnce_36 rfl (lv_at hl 1 rfl) ?_
      refine w_getr hX hK hH ck5 sh0 0 1 1 fr5_0 rfl q1_178 dX5_turnOnce_37 ?_
      refine lv_iload_n hx hb dX5_turnOnce_40 rfl (lv_at hl 0 rfl) ?_
      obtain ⟨hp, hq⟩ := hq
      refine w_cV hH (w_rV (As := [.int r1]) (rest := []) hX hK hE hH (c_X3_doMove (sf5_0 sh0) _ _ hp) ck3 (sf5_0 sh0) q3_177 q3_178 q3_179 q1_2 q3_180 hd_X3_doMove ⟨Nat.le_of_ble_eq_true rfl, Nat.le_of_ble_eq_true rfl⟩ ⟨rfl, rfl⟩ rfl hl.1 rfl (Nat.le_of_ble_eq_true rfl) dX5_turnOnce_41 ⟨Nat.zero_le _, Nat.zero_le _⟩) (fun  I4 H locs hpo hH => ?_)
      have hq := hq  I4 hpo
      refine lv_aload_n hx hb dX5_turnOnce_44 rfl (lv_at hl 1 rfl) ?_
      refine w_getr hX hK hH ck5 sh0 0 1 1 fr5_0 rfl q1_178 dX5_turnOnce_45 ?_
      refine lv_aload_n hx hb dX5_turnOnce_48 rfl (lv_at hl 1 rfl) ?_
      refine w_getr hX hK hH ck5 sh0 0 1 1 fr5_0 rfl q1_178 dX5_turnOnce_49 ?_
      refine w_getrN hX hK hE hH ck3 (sf5_0 sh0) 0 1 2 fr3_0 rfl qn1_61 dX5_turnOnce_52 ?_
      obtain ⟨hp, hq⟩ := hq
      refine w_cIp hH (w_rV (As := [.ref (b + 2)]) (rest := []) hX hK hE hH (c_X3_asInSecret (sf5_0 sh0) (sf3_0 (sf5_0 sh0))  _ hp) ck3 (sf5_0 sh0) q2_116 q2_117 q2_118 q1_2 q2_119 hd_X3_asInSecret ⟨Nat.le_of_ble_eq_true rfl, Nat.le_of_ble_eq_true rfl⟩ ⟨rfl, rfl⟩ rfl hl.1 rfl (Nat.le_of_ble_eq_true rfl) dX5_turnOnce_55 ⟨Nat.zero_le _, Nat.zero_le _⟩) (fun r5  H locs hpo hH => ?_)
      have hq := hq r5  hpo
      exact hq.elim
    · have hq := hq.2 hc
      exact w_throwW th_X5_76_309_80 hX hst hlk hEx hE hH hl.1 dX5_turnOnce_21 dX5_turnOnce_24 dX5_turnOnce_25 dX5_turnOnce_28 dX5_turnOnce_31 ⟨Nat.le_of_ble_eq_true rfl, Nat.le_of_ble_eq_true rfl, Nat.le_of_ble_eq_true rfl, Nat.le_of_ble_eq_true rfl⟩ hq
  · have hq := hq.2 hok
    obtain ⟨hp, hq⟩ := hq
    exact w_xV hEx hlk hH (w_xrS (As := [.int x1]) (rest := []) hX hK hE hH (c_X5_requireKeyx hst  _ _ hp) q3_40 q3_41 q1_1 q3_42 hd_X5_requireKey.2 ⟨Nat.le_of_ble_eq_true rfl, Nat.le_of_ble_eq_true rfl⟩ ⟨rfl, rfl⟩ rfl hl.1 rfl (Nat.le_of_ble_eq_true rfl) dX5_turnOnce_1 ⟨Nat.le_of_ble_eq_true rfl, Nat.le_of_ble_eq_true rfl⟩) (fun E u h => by obtain ⟨h1, h2⟩ := h; subst h1; exact hq E h2)
abbrev rm_X5_turn : Room := { frames := 10, cells := 0, slots := 0, locals := 163 }
theorem hd_X5_turn : yX5_turn.cls = RX5 ∧ yX5_turn.cls ≠ "java/lang/invoke/MethodHandle" ∧ yX5_turn.cls ≠ "java/lang/invoke/VarHandle" ∧ (parseMethodDescriptor yX5_turn.desc).map (fun d => d.parameters.length) = some 1 := by decide +kernel
set_option maxRecDepth 100000 in
set_option maxHeartbeats 4000000 in
theorem c_X5_turn {l : Launch} {D : va_G} {cs : wC4} {ad : Nat → Nat} {b : Nat} {G : wG} (x1 : Int32) (I : wI) (hp : pre_X5_turn x1 I) : Met l yX5_turn (ws_ yX5_turn cX5_turn 2 (some .int)) rm_X5_turn (va_Pc [.ref (b + 0), .int x1] (wPr D cs ad b G I)) (va_Qi (fun r I' => post_X5_turn x1 I r I') (wPo D cs b G) (fun q => b ≤ q)) 0 0 (fun q => b ≤ q) := by
  have hq := vc_X5_turn x1 I hp
  refine w_met (by decide) (Nat.le_of_ble_eq_true rfl) ?_
  intro p e s m below meth c hX hr hlk hK hE hH ls hl
  have C0 : wCx p m c s _ meth cX5_turn 2 RX5 (some .int) D cs ad b := ⟨hX, hr, hlk, hK, hE⟩
  have hX : CallFix p m c cX5_turn 2 s _ lw_all RX5 := hX
  have hx := hX.1
  have hb := hX.2.1
  have hown := hX.2.2.2.1
  have hts := hX.2.2.2.2
  have hl : lv_has ls 2 [(0, .ref (b + 0)), (1, .int x1)] := hl
  unfold v_X5_turn at hq
  refine lv_aload_n hx hb dX5_turn_0 rfl (lv_at hl 0 rfl) ?_
  refine lv_iload_n hx hb dX5_turn_1 rfl (lv_at hl 1 rfl) ?_
  refine lv_iconst (v := 0) hx hb dX5_turn_2 (by decide) ?_
  obtain ⟨hp, hq⟩ := hq
  refine w_cI hH (w_rV (As := [.int x1, .int (0 : Int32)]) (rest := []) hX hK hE hH (c_X5_turnOnce  _ _ _ hp) ck5 sh0 q3_157 q3_159 qs26 q1_1 q3_160 hd_X5_turnOnce ⟨Nat.le_of_ble_eq_true rfl, Nat.le_of_ble_eq_true rfl⟩ ⟨rfl, rfl⟩ rfl hl.1 rfl (Nat.le_of_ble_eq_true rfl) dX5_turn_3 ⟨Nat.zero_le _, Nat.zero_le _⟩) (fun r1 I2 H locs hpo hH => ?_)
  have hq := hq r1 I2 hpo
  exact w_eI hX hr hlk hH hq dX5_turn_6
abbrev rm_X5_turnx : Room := { frames := 10, cells := 1, slots := 6, locals := 163 }

set_option maxRecDepth 100000 in
set_option maxHeartbeats 4000000 in
theorem c_X5_turnx {l : Launch} {D : va_G} {cs : wC4} {ad : Nat → Nat} {b : Nat} {G : wG} (hst : l.stackTraces = false) (x1 : Int32) (I : wI) (hp : pre_X5_turnx x1 I) : vx_Met l yX5_turn (ws_ yX5_turn cX5_turn 2 (some .int)) rm_X5_turnx (va_Pc [.ref (b + 0), .int x1] (wPr D cs ad b G I)) (va_Qi (fun (_ : Int32) (_ : wI) => False) (wPo D cs b G) (fun q => b ≤ q)) (wXC D cs b G (exc_X5_turn x1 I)) 1 6 (fun q => b ≤ q) := by
  have hq := vc_X5_turnx x1 I hp
  refine w_metx (by decide) (Nat.le_of_ble_eq_true rfl) ?_
  intro p e s m below meth c hX hr hlk hEx hK hE hH ls hl
  have C0 : wCx p m c s _ meth cX5_turn 2 RX5 (some .int) D cs ad b := ⟨hX, hr, hlk, hK, hE⟩
  have hX : CallFix p m c cX5_turn 2 s _ lw_all RX5 := hX
  have hx := hX.1
  have hb := hX.2.1
  have hown := hX.2.2.2.1
  have hts := hX.2.2.2.2
  have hl : lv_has ls 2 [(0, .ref (b + 0)), (1, .int x1)] := hl
  unfold v_X5_turnx at hq
  refine lv_aload_n hx hb dX5_turn_0 rfl (lv_at hl 0 rfl) ?_
  refine lv_iload_n hx hb dX5_turn_1 rfl (lv_at hl 1 rfl) ?_
  refine lv_iconst (v := 0) hx hb dX5_turn_2 (by decide) ?_
  by_cases hok : ok_X5_turnOnce x1 (0 : Int32) I
  · have hq := hq.1 hok
    obtain ⟨hp, hq⟩ := hq
    refine w_cI hH (w_rV (As := [.int x1, .int (0 : Int32)]) (rest := []) hX hK hE hH (c_X5_turnOnce  _ _ _ hp) ck5 sh0 q3_157 q3_159 qs26 q1_1 q3_160 hd_X5_turnOnce ⟨Nat.le_of_ble_eq_true rfl, Nat.le_of_ble_eq_true rfl⟩ ⟨rfl, rfl⟩ rfl hl.1 rfl (Nat.le_of_ble_eq_true rfl) dX5_turn_3 ⟨Nat.zero_le _, Nat.zero_le _⟩) (fun r3 I4 H locs hpo hH => ?_)
    have hq := hq r3 I4 hpo
    exact hq.elim
  · have hq := hq.2 hok
    obtain ⟨hp, hq⟩ := hq
    exact w_xI hEx hlk hH (w_xrV (As := [.int x1, .int (0 : Int32)]) (rest := []) hX hK hE hH (c_X5_turnOncex hst  _ _ _ hp) ck5 sh0 q3_157 q3_159 qs26 q1_1 q3_160 hd_X5_turnOnce ⟨Nat.le_of_ble_eq_true rfl, Nat.le_of_ble_eq_true rfl⟩ ⟨rfl, rfl⟩ rfl hl.1 rfl (Nat.le_of_ble_eq_true rfl) dX5_turn_3 ⟨Nat.le_of_ble_eq_true rfl, Nat.le_of_ble_eq_true rfl⟩) (fun E u h => hq E u h)
abbrev rm_X5_back : Room := { frames := 10, cells := 0, slots := 0, locals := 163 }
theorem hd_X5_back : yX5_back.cls = RX5 ∧ yX5_back.cls ≠ "java/lang/invoke/MethodHandle" ∧ yX5_back.cls ≠ "java/lang/invoke/VarHandle" ∧ (parseMethodDescriptor yX5_back.desc).map (fun d => d.parameters.length) = some 1 := by decide +kernel
set_option maxRecDepth 100000 in
set_option maxHeartbeats 4000000 in
theorem c_X5_back {l : Launch} {D : va_G} {cs : wC4} {ad : Nat → Nat} {b : Nat} {G : wG} (x1 : Int32) (I : wI) (hp : pre_X5_back x1 I) : Met l yX5_back (ws_ yX5_back cX5_back 2 (some .int)) rm_X5_back (va_Pc [.ref (b + 0), .int x1] (wPr D cs ad b G I)) (va_Qi (fun r I' => post_X5_back x1 I r I') (wPo D cs b G) (fun q => b ≤ q)) 0 0 (fun q => b ≤ q) := by
  have hq := vc_X5_back x1 I hp
  refine w_met (by decide) (Nat.le_of_ble_eq_true rfl) ?_
  intro p e s m below meth c hX hr hlk hK hE hH ls hl
  have C0 : wCx p m c s _ meth cX5_back 2 RX5 (some .int) D cs ad b := ⟨hX, hr, hlk, hK, hE⟩
  have hX : CallFix p m c cX5_back 2 s _ lw_all RX5 := hX
  have hx := hX.1
  have hb := hX.2.1
  have hown := hX.2.2.2.1
  have hts := hX.2.2.2.2
  have hl : lv_has ls 2 [(0, .ref (b + 0)), (1, .int x1)] := hl
  unfold v_X5_back at hq
  refine lv_aload_n hx hb dX5_back_0 rfl (lv_at hl 0 rfl) ?_
  refine lv_iload_n hx hb dX5_back_1 rfl (lv_at hl 1 rfl) ?_
  refine lv_iconst (v := 1) hx hb dX5_back_2 (by decide) ?_
  obtain ⟨hp, hq⟩ := hq
  refine w_cI hH (w_rV (As := [.int x1, .int (1 : Int32)]) (rest := []) hX hK hE hH (c_X5_turnOnce  _ _ _ hp) ck5 sh0 q3_157 q3_159 qs26 q1_1 q3_160 hd_X5_turnOnce ⟨Nat.le_of_ble_eq_true rfl, Nat.le_of_ble_eq_true rfl⟩ ⟨rfl, rfl⟩ rfl hl.1 rfl (Nat.le_of_ble_eq_true rfl) dX5_back_3 ⟨Nat.zero_le _, Nat.zero_le _⟩) (fun r1 I2 H locs hpo hH => ?_)
  have hq := hq r1 I2 hpo
  exact w_eI hX hr hlk hH hq dX5_back_6
abbrev rm_X5_backx : Room := { frames := 10, cells := 1, slots := 6, locals := 163 }

set_option maxRecDepth 100000 in
set_option maxHeartbeats 4000000 in
theorem c_X5_backx {l : Launch} {D : va_G} {cs : wC4} {ad : Nat → Nat} {b : Nat} {G : wG} (hst : l.stackTraces = false) (x1 : Int32) (I : wI) (hp : pre_X5_backx x1 I) : vx_Met l yX5_back (ws_ yX5_back cX5_back 2 (some .int)) rm_X5_backx (va_Pc [.ref (b + 0), .int x1] (wPr D cs ad b G I)) (va_Qi (fun (_ : Int32) (_ : wI) => False) (wPo D cs b G) (fun q => b ≤ q)) (wXC D cs b G (exc_X5_back x1 I)) 1 6 (fun q => b ≤ q) := by
  have hq := vc_X5_backx x1 I hp
  refine w_metx (by decide) (Nat.le_of_ble_eq_true rfl) ?_
  intro p e s m below meth c hX hr hlk hEx hK hE hH ls hl
  have C0 : wCx p m c s _ meth cX5_back 2 RX5 (some .int) D cs ad b := ⟨hX, hr, hlk, hK, hE⟩
  have hX : CallFix p m c cX5_back 2 s _ lw_all RX5 := hX
  have hx := hX.1
  have hb := hX.2.1
  have hown := hX.2.2.2.1
  have hts := hX.2.2.2.2
  have hl : lv_has ls 2 [(0, .ref (b + 0)), (1, .int x1)] := hl
  unfold v_X5_backx at hq
  refine lv_aload_n hx hb dX5_back_0 rfl (lv_at hl 0 rfl) ?_
  refine lv_iload_n hx hb dX5_back_1 rfl (lv_at hl 1 rfl) ?_
  refine lv_iconst (v := 1) hx hb dX5_back_2 (by decide) ?_
  by_cases hok : ok_X5_turnOnce x1 (1 : Int32) I
  · have hq := hq.1 hok
    obtain ⟨hp, hq⟩ := hq
    refine w_cI hH (w_rV (As := [.int x1, .int (1 : Int32)]) (rest := []) hX hK hE hH (c_X5_turnOnce  _ _ _ hp) ck5 sh0 q3_157 q3_159 qs26 q1_1 q3_160 hd_X5_turnOnce ⟨Nat.le_of_ble_eq_true rfl, Nat.le_of_ble_eq_true rfl⟩ ⟨rfl, rfl⟩ rfl hl.1 rfl (Nat.le_of_ble_eq_true rfl) dX5_back_3 ⟨Nat.zero_le _, Nat.zero_le _⟩) (fun r3 I4 H locs hpo hH => ?_)
    have hq := hq r3 I4 hpo
    exact hq.elim
  · have hq := hq.2 hok
    obtain ⟨hp, hq⟩ := hq
    exact w_xI hEx hlk hH (w_xrV (As := [.int x1, .int (1 : Int32)]) (rest := []) hX hK hE hH (c_X5_turnOncex hst  _ _ _ hp) ck5 sh0 q3_157 q3_159 qs26 q1_1 q3_160 hd_X5_turnOnce ⟨Nat.le_of_ble_eq_true rfl, Nat.le_of_ble_eq_true rfl⟩ ⟨rfl, rfl⟩ rfl hl.1 rfl (Nat.le_of_ble_eq_true rfl) dX5_back_3 ⟨Nat.le_of_ble_eq_true rfl, Nat.le_of_ble_eq_true rfl⟩) (fun E u h => hq E u h)
abbrev rm_X4_signAt : Room := { frames := 0, cells := 0, slots := 0, locals := 0 }
theorem hd_X4_signAt : yX4_signAt.cls = RX4 ∧ yX4_signAt.cls ≠ "java/lang/invoke/MethodHandle" ∧ yX4_signAt.cls ≠ "java/lang/invoke/VarHandle" ∧ (parseMethodDescriptor yX4_signAt.desc).map (fun d => d.parameters.length) = some 1 := by decide +kernel
set_option maxRecDepth 100000 in
set_option maxHeartbeats 4000000 in
theorem s_X4_signAt_20 {k : Nat} {x1 : Int32} {I : wI} {Q : Int32 → Prop} (hs : wSh k = (0, 4)) (C0 : wCx p m c s args meth cX4_signAt 2 RX4 (some .char) D cs ad b) : ∀ (t0 : Int32) (H : Heap) (locs : List Loc) (ls : Array Slot), v_X4_signAt_20 k x1 I Q t0 → wH D cs b G I s H locs → lv_has ls 2 [] → W p l e rm_X4_signAt s m args below meth c H locs 0 0 (MQ below (va_Qi (fun r I' => I' = I ∧ Q r) (wPo D cs b G) (fun q => b ≤ q)) args s 0 0 (fun q => b ≤ q)) (F0 m 20 ls [.int t0]) := by
  obtain ⟨hX, hr, hlk, hK, hE⟩ := id C0
  have hx := hX.1
  have hb := hX.2.1
  have hown := hX.2.2.2.1
  have hts := hX.2.2.2.2
  intro t0 H locs ls hq hH hl
  unfold v_X4_signAt_20 at hq
  obtain ⟨hz, hq⟩ := hq
  exact w_eC hz hX hr hlk hH ⟨rfl, hq⟩ dX4_signAt_20
set_option maxRecDepth 100000 in
set_option maxHeartbeats 4000000 in
theorem s_X4_signAt_19 {k : Nat} {x1 : Int32} {I : wI} {Q : Int32 → Prop} (hs : wSh k = (0, 4)) (C0 : wCx p m c s args meth cX4_signAt 2 RX4 (some .char) D cs ad b) : ∀  (H : Heap) (locs : List Loc) (ls : Array Slot), v_X4_signAt_19 k x1 I Q  → wH D cs b G I s H locs → lv_has ls 2 [] → W p l e rm_X4_signAt s m args below meth c H locs 0 0 (MQ below (va_Qi (fun r I' => I' = I ∧ Q r) (wPo D cs b G) (fun q => b ≤ q)) args s 0 0 (fun q => b ≤ q)) (F0 m 19 ls []) := by
  obtain ⟨hX, hr, hlk, hK, hE⟩ := id C0
  have hx := hX.1
  have hb := hX.2.1
  have hown := hX.2.2.2.1
  have hts := hX.2.2.2.2
  intro  H locs ls hq hH hl
  unfold v_X4_signAt_19 at hq
  refine lv_iconst (v := 0) hx hb dX4_signAt_19 (by decide) ?_
  exact s_X4_signAt_20 hs C0  (0 : Int32) _ _ _ hq hH (lv_sub hl [] rfl)
set_option maxRecDepth 100000 in
set_option maxHeartbeats 4000000 in
theorem c_X4_signAt {l : Launch} {D : va_G} {cs : wC4} {ad : Nat → Nat} {b : Nat} {G : wG} {k : Nat} (hs : wSh k = (0, 4)) (x1 : Int32) (I : wI) (hp : pre_X4_signAt k x1 I) : Met l yX4_signAt (ws_ yX4_signAt cX4_signAt 2 (some .char)) rm_X4_signAt (va_Pc [.ref (b + k), .int x1] (wPr D cs ad b G I)) (va_Qi (fun r I' => I' = I ∧ post_X4_signAt k x1 I r) (wPo D cs b G) (fun q => b ≤ q)) 0 0 (fun q => b ≤ q) := by
  have hq := vc_X4_signAt k x1 I hp
  refine w_met (by decide) (Nat.le_of_ble_eq_true rfl) ?_
  intro p e s m below meth c hX hr hlk hK hE hH ls hl
  have C0 : wCx p m c s _ meth cX4_signAt 2 RX4 (some .char) D cs ad b := ⟨hX, hr, hlk, hK, hE⟩
  have hX : CallFix p m c cX4_signAt 2 s _ lw_all RX4 := hX
  have hx := hX.1
  have hb := hX.2.1
  have hown := hX.2.2.2.1
  have hts := hX.2.2.2.2
  have hl : lv_has ls 2 [(0, .ref (b + k)), (1, .int x1)] := hl
  unfold v_X4_signAt at hq
  refine lv_iload_n hx hb dX4_signAt_0 rfl (lv_at hl 1 rfl) ?_
  refine lv_if_lt (tgt := 19) hx hb dX4_signAt_1 (by decide) (fun hc => ?_) (fun hc => ?_)
  · have hq := hq.1 hc
    exact s_X4_signAt_19 hs C0   _ _ _ hq hH (lv_sub hl [] rfl)
  · have hq := hq.2 hc
    refine lv_iload_n hx hb dX4_signAt_4 rfl (lv_at hl 1 rfl) ?_
    refine lv_bipush (v := 60) hx hb dX4_signAt_5 (by decide) ?_
    refine lv_icmp_ge (tgt := 19) hx hb dX4_signAt_7 (by decide) (fun hc => ?_) (fun hc => ?_)
    · have hq := hq.1 hc
      exact s_X4_signAt_19 hs C0   _ _ _ hq hH (lv_sub hl [] rfl)
    · have hq := hq.2 hc
      refine lv_aload_n hx hb dX4_signAt_10 rfl (lv_at hl 0 rfl) ?_
      refine w_getr hX hK hH ck4 hs 0 1 (k + 1) fr4_0 rfl q1_106 dX4_signAt_11 ?_
      refine lv_iload_n hx hb dX4_signAt_14 rfl (lv_at hl 1 rfl) ?_
      obtain ⟨hc, hq⟩ := hq
      refine w_cald hX hK hH (sf4_0 hs) hc dX4_signAt_15 ?_
      refine lv_goto (tgt := 20) hx hb dX4_signAt_16 (by decide) ?_
      exact s_X4_signAt_20 hs C0  (I (k + 1) (x1).toNatClampNeg) _ _ _ hq hH (lv_sub hl [] rfl)
abbrev rm_X4_moveAt : Room := { frames := 0, cells := 0, slots := 0, locals := 0 }
theorem hd_X4_moveAt : yX4_moveAt.cls = RX4 ∧ yX4_moveAt.cls ≠ "java/lang/invoke/MethodHandle" ∧ yX4_moveAt.cls ≠ "java/lang/invoke/VarHandle" ∧ (parseMethodDescriptor yX4_moveAt.desc).map (fun d => d.parameters.length) = some 1 := by decide +kernel
set_option maxRecDepth 100000 in
set_option maxHeartbeats 4000000 in
theorem s_X4_moveAt_21 {k : Nat} {x1 : Int32} {I : wI} {Q : Int32 → Prop} (hs : wSh k = (0, 4)) (C0 : wCx p m c s args meth cX4_moveAt 2 RX4 (some .int) D cs ad b) : ∀ (t0 : Int32) (H : Heap) (locs : List Loc) (ls : Array Slot), v_X4_moveAt_21 k x1 I Q t0 → wH D cs b G I s H locs → lv_has ls 2 [] → W p l e rm_X4_moveAt s m args below meth c H locs 0 0 (MQ below (va_Qi (fun r I' => I' = I ∧ Q r) (wPo D cs b G) (fun q => b ≤ q)) args s 0 0 (fun q => b ≤ q)) (F0 m 21 ls [.int t0]) := by
  obtain ⟨hX, hr, hlk, hK, hE⟩ := id C0
  have hx := hX.1
  have hb := hX.2.1
  have hown := hX.2.2.2.1
  have hts := hX.2.2.2.2
  intro t0 H locs ls hq hH hl
  unfold v_X4_moveAt_21 at hq
  exact w_eI hX hr hlk hH ⟨rfl, hq⟩ dX4_moveAt_21
set_option maxRecDepth 100000 in
set_option maxHeartbeats 4000000 in
theorem s_X4_moveAt_20 {k : Nat} {x1 : Int32} {I : wI} {Q : Int32 → Prop} (hs : wSh k = (0, 4)) (C0 : wCx p m c s args meth cX4_moveAt 2 RX4 (some .int) D cs ad b) : ∀  (H : Heap) (locs : List Loc) (ls : Array Slot), v_X4_moveAt_20 k x1 I Q  → wH D cs b G I s H locs → lv_has ls 2 [] → W p l e rm_X4_moveAt s m args below meth c H locs 0 0 (MQ below (va_Qi (fun r I' => I' = I ∧ Q r) (wPo D cs b G) (fun q => b ≤ q)) args s 0 0 (fun q => b ≤ q)) (F0 m 20 ls []) := by
  obtain ⟨hX, hr, hlk, hK, hE⟩ := id C0
  have hx := hX.1
  have hb := hX.2.1
  have hown := hX.2.2.2.1
  have hts := hX.2.2.2.2
  intro  H locs ls hq hH hl
  unfold v_X4_moveAt_20 at hq
  refine lv_iconst (v := 0) hx hb dX4_moveAt_20 (by decide) ?_
  exact s_X4_moveAt_21 hs C0  (0 : Int32) _ _ _ hq hH (lv_sub hl [] rfl)
set_option maxRecDepth 100000 in
set_option maxHeartbeats 4000000 in
theorem c_X4_moveAt {l : Launch} {D : va_G} {cs : wC4} {ad : Nat → Nat} {b : Nat} {G : wG} {k : Nat} (hs : wSh k = (0, 4)) (x1 : Int32) (I : wI) (hp : pre_X4_moveAt k x1 I) : Met l yX4_moveAt (ws_ yX4_moveAt cX4_moveAt 2 (some .int)) rm_X4_moveAt (va_Pc [.ref (b + k), .int x1] (wPr D cs ad b G I)) (va_Qi (fun r I' => I' = I ∧ post_X4_moveAt k x1 I r) (wPo D cs b G) (fun q => b ≤ q)) 0 0 (fun q => b ≤ q) := by
  have hq := vc_X4_moveAt k x1 I hp
  refine w_met (by decide) (Nat.le_of_ble_eq_true rfl) ?_
  intro p e s m below meth c hX hr hlk hK hE hH ls hl
  have C0 : wCx p m c s _ meth cX4_moveAt 2 RX4 (some .int) D cs ad b := ⟨hX, hr, hlk, hK, hE⟩
  have hX : CallFix p m c cX4_moveAt 2 s _ lw_all RX4 := hX
  have hx := hX.1
  have hb := hX.2.1
  have hown := hX.2.2.2.1
  have hts := hX.2.2.2.2
  have hl : lv_has ls 2 [(0, .ref (b + k)), (1, .int x1)] := hl
  unfold v_X4_moveAt at hq
  refine lv_iload_n hx hb dX4_moveAt_0 rfl (lv_at hl 1 rfl) ?_
  refine lv_if_lt (tgt := 20) hx hb dX4_moveAt_1 (by decide) (fun hc => ?_) (fun hc => ?_)
  · have hq := hq.1 hc
    exact s_X4_moveAt_20 hs C0   _ _ _ hq hH (lv_sub hl [] rfl)
  · have hq := hq.2 hc
    refine lv_iload_n hx hb dX4_moveAt_4 rfl (lv_at hl 1 rfl) ?_
    refine lv_sipush (v := 500) hx hb dX4_moveAt_5 (by decide) ?_
    refine lv_icmp_ge (tgt := 20) hx hb dX4_moveAt_8 (by decide) (fun hc => ?_) (fun hc => ?_)
    · have hq := hq.1 hc
      exact s_X4_moveAt_20 hs C0   _ _ _ hq hH (lv_sub hl [] rfl)
    · have hq := hq.2 hc
      refine lv_aload_n hx hb dX4_moveAt_11 rfl (lv_at hl 0 rfl) ?_
      refine w_getr hX hK hH ck4 hs 2 2 (k + 2) fr4_2 rfl q1_109 dX4_moveAt_12 ?_
      refine lv_iload_n hx hb dX4_moveAt_15 rfl (lv_at hl 1 rfl) ?_
      obtain ⟨hc, hq⟩ := hq
      refine w_iald hX hK hH (sf4_2 hs) hc dX4_moveAt_16 ?_
      refine lv_goto (tgt := 21) hx hb dX4_moveAt_17 (by decide) ?_
      exact s_X4_moveAt_21 hs C0  (I (k + 2) (x1).toNatClampNeg) _ _ _ hq hH (lv_sub hl [] rfl)
abbrev rm_X4_addMove : Room := { frames := 0, cells := 0, slots := 0, locals := 0 }
theorem hd_X4_addMove : yX4_addMove.cls = RX4 ∧ yX4_addMove.cls ≠ "java/lang/invoke/MethodHandle" ∧ yX4_addMove.cls ≠ "java/lang/invoke/VarHandle" ∧ (parseMethodDescriptor yX4_addMove.desc).map (fun d => d.parameters.length) = some 1 := by decide +kernel
set_option maxRecDepth 100000 in
set_option maxHeartbeats 4000000 in
theorem s_X4_addMove_27 {k : Nat} {x1 : Int32} {Q : wI → Prop} (hs : wSh k = (0, 4)) (C0 : wCx p m c s args meth cX4_addMove 2 RX4 none D cs ad b) : ∀  (I : wI) (H : Heap) (locs : List Loc) (ls : Array Slot), v_X4_addMove_27 k x1 Q  I → wH D cs b G I s H locs → lv_has ls 2 [(0, .ref (b + k))] → W p l e rm_X4_addMove s m args below meth c H locs 0 0 (MQ below (va_Qv (Q) (wPo D cs b G) (fun q => b ≤ q)) args s 0 0 (fun q => b ≤ q)) (F0 m 27 ls []) := by
  obtain ⟨hX, hr, hlk, hK, hE⟩ := id C0
  have hx := hX.1
  have hb := hX.2.1
  have hown := hX.2.2.2.1
  have hts := hX.2.2.2.2
  intro  I H locs ls hq hH hl
  unfold v_X4_addMove_27 at hq
  refine lv_aload_n hx hb dX4_addMove_27 rfl (lv_at hl 0 rfl) ?_
  refine lv_dup hx hb dX4_addMove_28 rfl ?_
  refine w_geti hX hK hH ck4 hs 3 fi4_3 q1_110 dX4_addMove_29 ?_
  refine lv_iconst (v := 1) hx hb dX4_addMove_32 (by decide) ?_
  refine lv_iadd hx hb dX4_addMove_33 ?_
  refine w_puti hX hK hH ck4 hs 3 fw4_3 q1_110 dX4_addMove_34 (fun I1 H locs hI hH => ?_)
  have hq := hq I1 hI
  exact w_eV hX hr hlk hH hq dX4_addMove_37
set_option maxRecDepth 100000 in
set_option maxHeartbeats 4000000 in
theorem c_X4_addMove {l : Launch} {D : va_G} {cs : wC4} {ad : Nat → Nat} {b : Nat} {G : wG} {k : Nat} (hs : wSh k = (0, 4)) (x1 : Int32) (I : wI) (hp : pre_X4_addMove k x1 I) : Met l yX4_addMove (ws_ yX4_addMove cX4_addMove 2 none) rm_X4_addMove (va_Pc [.ref (b + k), .int x1] (wPr D cs ad b G I)) (va_Qv (fun I' => post_X4_addMove k x1 I I') (wPo D cs b G) (fun q => b ≤ q)) 0 0 (fun q => b ≤ q) := by
  have hq := vc_X4_addMove k x1 I hp
  refine w_met (by decide) (Nat.le_of_ble_eq_true rfl) ?_
  intro p e s m below meth c hX hr hlk hK hE hH ls hl
  have C0 : wCx p m c s _ meth cX4_addMove 2 RX4 none D cs ad b := ⟨hX, hr, hlk, hK, hE⟩
  have hX : CallFix p m c cX4_addMove 2 s _ lw_all RX4 := hX
  have hx := hX.1
  have hb := hX.2.1
  have hown := hX.2.2.2.1
  have hts := hX.2.2.2.2
  have hl : lv_has ls 2 [(0, .ref (b + k)), (1, .int x1)] := hl
  unfold v_X4_addMove at hq
  refine lv_aload_n hx hb dX4_addMove_0 rfl (lv_at hl 0 rfl) ?_
  refine w_geti hX hK hH ck4 hs 3 fi4_3 q1_110 dX4_addMove_1 ?_
  refine lv_if_lt (tgt := 27) hx hb dX4_addMove_4 (by decide) (fun hc => ?_) (fun hc => ?_)
  · have hq := hq.1 hc
    exact s_X4_addMove_27 hs C0   _ _ _ _ hq hH (lv_sub hl [0] rfl)
  · have hq := hq.2 hc
    refine lv_aload_n hx hb dX4_addMove_7 rfl (lv_at hl 0 rfl) ?_
    refine w_geti hX hK hH ck4 hs 3 fi4_3 q1_110 dX4_addMove_8 ?_
    refine lv_sipush (v := 500) hx hb dX4_addMove_11 (by decide) ?_
    refine lv_icmp_ge (tgt := 27) hx hb dX4_addMove_14 (by decide) (fun hc => ?_) (fun hc => ?_)
    · have hq := hq.1 hc
      exact s_X4_addMove_27 hs C0   _ _ _ _ hq hH (lv_sub hl [0] rfl)
    · have hq := hq.2 hc
      refine lv_aload_n hx hb dX4_addMove_17 rfl (lv_at hl 0 rfl) ?_
      refine w_getr hX hK hH ck4 hs 2 2 (k + 2) fr4_2 rfl q1_109 dX4_addMove_18 ?_
      refine lv_aload_n hx hb dX4_addMove_21 rfl (lv_at hl 0 rfl) ?_
      refine w_geti hX hK hH ck4 hs 3 fi4_3 q1_110 dX4_addMove_22 ?_
      refine lv_iload_n hx hb dX4_addMove_25 rfl (lv_at hl 1 rfl) ?_
      obtain ⟨hc, hq⟩ := hq
      refine w_iast hX hK hH (sf4_2 hs) hc dX4_addMove_26 (fun I1 H locs hI hH => ?_)
      have hq := hq I1 hI
      exact s_X4_addMove_27 hs C0   _ _ _ _ hq hH (lv_sub hl [0] rfl)
abbrev rm_X4_repeat : Room := { frames := 1, cells := 0, slots := 0, locals := 21 }
theorem hd_X4_repeat : yX4_repeat.cls = RX4 ∧ yX4_repeat.cls ≠ "java/lang/invoke/MethodHandle" ∧ yX4_repeat.cls ≠ "java/lang/invoke/VarHandle" ∧ (parseMethodDescriptor yX4_repeat.desc).map (fun d => d.parameters.length) = some 2 := by decide +kernel
set_option maxRecDepth 100000 in
set_option maxHeartbeats 4000000 in
theorem s_X4_repeat_53 {k : Nat} {x1 : Int32} {x2 : Int32} {Q : wI → Prop} (hs : wSh k = (0, 4)) (C0 : wCx p m c s args meth cX4_repeat 6 RX4 none D cs ad b) : ∀ (v4 : Int32) (I : wI) (H : Heap) (locs : List Loc) (ls : Array Slot), v_X4_repeat_53 k x1 x2 Q v4 I → wH D cs b G I s H locs → lv_has ls 6 [(0, .ref (b + k)), (4, .int v4)] → W p l e rm_X4_repeat s m args below meth c H locs 0 0 (MQ below (va_Qv (Q) (wPo D cs b G) (fun q => b ≤ q)) args s 0 0 (fun q => b ≤ q)) (F0 m 53 ls []) := by
  obtain ⟨hX, hr, hlk, hK, hE⟩ := id C0
  have hx := hX.1
  have hb := hX.2.1
  have hown := hX.2.2.2.1
  have hts := hX.2.2.2.2
  intro v4 I H locs ls hq hH hl
  unfold v_X4_repeat_53 at hq
  refine lv_aload_n hx hb dX4_repeat_53 rfl (lv_at hl 0 rfl) ?_
  refine lv_iload hx hb dX4_repeat_54 (lv_at hl 1 rfl) ?_
  refine w_puti hX hK hH ck4 hs 3 fw4_3 q1_110 dX4_repeat_56 (fun I1 H locs hI hH => ?_)
  have hq := hq I1 hI
  exact w_eV hX hr hlk hH hq dX4_repeat_59
set_option maxRecDepth 100000 in
set_option maxHeartbeats 4000000 in
theorem s_X4_repeat_20 {k : Nat} {x1 : Int32} {x2 : Int32} {Q : wI → Prop} (hs : wSh k = (0, 4)) (C0 : wCx p m c s args meth cX4_repeat 6 RX4 none D cs ad b) : ∀ (f : Nat) (v3 : Int32) (v4 : Int32) (v5 : Int32) (I : wI) (H : Heap) (locs : List Loc) (ls : Array Slot), v_X4_repeat_20 k x1 x2 Q f v3 v4 v5 I → wH D cs b G I s H locs → lv_has ls 6 [(0, .ref (b + k)), (3, .int v3), (4, .int v4), (5, .int v5)] → W p l e rm_X4_repeat s m args below meth c H locs 0 0 (MQ below (va_Qv (Q) (wPo D cs b G) (fun q => b ≤ q)) args s 0 0 (fun q => b ≤ q)) (F0 m 20 ls []) := by
  obtain ⟨hX, hr, hlk, hK, hE⟩ := id C0
  have hx := hX.1
  have hb := hX.2.1
  have hown := hX.2.2.2.1
  have hts := hX.2.2.2.2
  intro f
  induction f with
  | zero =>
    intro v3 v4 v5 I H locs ls hq
    exact hq.elim
  | succ f hK20 =>
    intro v3 v4 v5 I H locs ls hq hH hl
    have hq : g_X4_repeat_20 k x1 x2 Q (v_X4_repeat_20 k x1 x2 Q f) v3 v4 v5 I := hq
    unfold g_X4_repeat_20 at hq
    refine lv_iload hx hb dX4_repeat_20 (lv_at hl 3 rfl) ?_
    refine lv_iload hx hb dX4_repeat_22 (lv_at hl 2 rfl) ?_
    refine lv_icmp_ge (tgt := 53) hx hb dX4_repeat_24 (by decide) (fun hc => ?_) (fun hc => ?_)
    · have hq := hq.1 hc
      exact s_X4_repeat_53 hs C0  v4 _ _ _ _ hq hH (lv_sub hl [0, 2] rfl)
    · have hq := hq.2 hc
      refine lv_iload hx hb dX4_repeat_27 (lv_at hl 3 rfl) ?_
      refine lv_sipush (v := 500) hx hb dX4_repeat_29 (by decide) ?_
      refine lv_icmp_ge (tgt := 53) hx hb dX4_repeat_32 (by decide) (fun hc => ?_) (fun hc => ?_)
      · have hq := hq.1 hc
        exact s_X4_repeat_53 hs C0  v4 _ _ _ _ hq hH (lv_sub hl [0, 2] rfl)
      · have hq := hq.2 hc
        refine lv_aload_n hx hb dX4_repeat_35 rfl (lv_at hl 0 rfl) ?_
        refine lv_aload_n hx hb dX4_repeat_36 rfl (lv_at hl 0 rfl) ?_
        refine lv_iload hx hb dX4_repeat_37 (lv_at hl 3 rfl) ?_
        refine lv_iload_n hx hb dX4_repeat_39 rfl (lv_at hl 1 rfl) ?_
        refine lv_isub hx hb dX4_repeat_40 ?_
        obtain ⟨hp, hq⟩ := hq
        refine w_cIp hH (w_rV (As := [.int (v5 - v3)]) (rest := [.ref (b + k)]) hX hK hE hH (c_X4_moveAt hs _ _ hp) ck4 hs q2_45 q2_46 q2_47 q1_5 q2_48 hd_X4_moveAt ⟨Nat.le_of_ble_eq_true rfl, Nat.le_of_ble_eq_true rfl⟩ ⟨rfl, rfl⟩ rfl hl.1 rfl (Nat.le_of_ble_eq_true rfl) dX4_repeat_41 ⟨Nat.zero_le _, Nat.zero_le _⟩) (fun r1  H locs hpo hH => ?_)
        have hq := hq r1  hpo
        obtain ⟨hp, hq⟩ := hq
        refine w_cV hH (w_rV (As := [.int r1]) (rest := []) hX hK hE hH (c_X4_addMove hs _ _ hp) ck4 hs q2_49 q2_51 qs6 q1_5 q2_52 hd_X4_addMove ⟨Nat.le_of_ble_eq_true rfl, Nat.le_of_ble_eq_true rfl⟩ ⟨rfl, rfl⟩ rfl hl.1 rfl (Nat.le_of_ble_eq_true rfl) dX4_repeat_44 ⟨Nat.zero_le _, Nat.zero_le _⟩) (fun  I2 H locs hpo hH => ?_)
        have hq := hq  I2 hpo
        refine lv_iinc (v := (v5 + (1 : Int32))) (lv' := [(5, .int (v5 + (1 : Int32))), (0, .ref (b + k)), (3, .int v3), (4, .int v4)]) hx hb dX4_repeat_47 hl (k := 3) rfl rfl (by decide) rfl (fun ls hl => ?_)
        refine lv_goto (tgt := 20) hx hb dX4_repeat_50 (by decide) ?_
        exact hK20 v3 v4 (v5 + (1 : Int32)) _ _ _ _ hq hH (lv_sub hl [1, 2, 3, 0] rfl)
set_option maxRecDepth 100000 in
set_option maxHeartbeats 4000000 in
theorem c_X4_repeat {l : Launch} {D : va_G} {cs : wC4} {ad : Nat → Nat} {b : Nat} {G : wG} {k : Nat} (hs : wSh k = (0, 4)) (x1 : Int32) (x2 : Int32) (I : wI) (hp : pre_X4_repeat k x1 x2 I) : Met l yX4_repeat (ws_ yX4_repeat cX4_repeat 6 none) rm_X4_repeat (va_Pc [.ref (b + k), .int x1, .int x2] (wPr D cs ad b G I)) (va_Qv (fun I' => post_X4_repeat k x1 x2 I I') (wPo D cs b G) (fun q => b ≤ q)) 0 0 (fun q => b ≤ q) := by
  have hq := vc_X4_repeat k x1 x2 I hp
  refine w_met (by decide) (Nat.le_of_ble_eq_true rfl) ?_
  intro p e s m below meth c hX hr hlk hK hE hH ls hl
  have C0 : wCx p m c s _ meth cX4_repeat 6 RX4 none D cs ad b := ⟨hX, hr, hlk, hK, hE⟩
  have hX : CallFix p m c cX4_repeat 6 s _ lw_all RX4 := hX
  have hx := hX.1
  have hb := hX.2.1
  have hown := hX.2.2.2.1
  have hts := hX.2.2.2.2
  have hl : lv_has ls 6 [(0, .ref (b + k)), (1, .int x1), (2, .int x2)] := hl
  unfold v_X4_repeat at hq
  refine lv_aload_n hx hb dX4_repeat_0 rfl (lv_at hl 0 rfl) ?_
  refine w_geti hX hK hH ck4 hs 3 fi4_3 q1_110 dX4_repeat_1 ?_
  refine lv_iload_n hx hb dX4_repeat_4 rfl (lv_at hl 1 rfl) ?_
  refine lv_isub hx hb dX4_repeat_5 ?_
  refine lv_istore_n (lv' := [(3, .int ((I k 3) - x1)), (0, .ref (b + k)), (1, .int x1), (2, .int x2)]) hx hb dX4_repeat_6 rfl hl (by decide) rfl (fun ls hl => ?_)
  refine lv_iload_n hx hb dX4_repeat_7 rfl (lv_at hl 2 rfl) ?_
  refine lv_iload_n hx hb dX4_repeat_8 rfl (lv_at hl 0 rfl) ?_
  refine lv_iload_n hx hb dX4_repeat_9 rfl (lv_at hl 3 rfl) ?_
  refine lv_imul hx hb dX4_repeat_10 ?_
  refine lv_iadd hx hb dX4_repeat_11 ?_
  refine lv_istore (lv' := [(4, .int (x1 + (((I k 3) - x1) * x2))), (3, .int ((I k 3) - x1)), (0, .ref (b + k)), (1, .int x1), (2, .int x2)]) hx hb dX4_repeat_12 hl (by decide) rfl (fun ls hl => ?_)
  refine lv_aload_n hx hb dX4_repeat_14 rfl (lv_at hl 2 rfl) ?_
  refine w_geti hX hK hH ck4 hs 3 fi4_3 q1_110 dX4_repeat_15 ?_
  refine lv_istore (lv' := [(5, .int (I k 3)), (4, .int (x1 + (((I k 3) - x1) * x2))), (3, .int ((I k 3) - x1)), (0, .ref (b + k)), (1, .int x1), (2, .int x2)]) hx hb dX4_repeat_18 hl (by decide) rfl (fun ls hl => ?_)
  obtain ⟨f, hq⟩ := hq
  exact s_X4_repeat_20 hs C0  f ((I k 3) - x1) (x1 + (((I k 3) - x1) * x2)) (I k 3) _ _ _ _ hq hH (lv_sub hl [3, 2, 1, 0] rfl)
abbrev rm_X4_takesFigure : Room := { frames := 2, cells := 0, slots := 0, locals := 46 }
theorem hd_X4_takesFigure : yX4_takesFigure.cls = RX4 ∧ yX4_takesFigure.cls ≠ "java/lang/invoke/MethodHandle" ∧ yX4_takesFigure.cls ≠ "java/lang/invoke/VarHandle" ∧ (parseMethodDescriptor yX4_takesFigure.desc).map (fun d => d.parameters.length) = some 1 := by decide +kernel
set_option maxRecDepth 100000 in
set_option maxHeartbeats 4000000 in
theorem s_X4_takesFigure_28 {k : Nat} {x1 : Int32} {Q : Int32 → wI → Prop} (hs : wSh k = (0, 4)) (C0 : wCx p m c s args meth cX4_takesFigure 3 RX4 (some .boolean) D cs ad b) : ∀  (I : wI) (H : Heap) (locs : List Loc) (ls : Array Slot), v_X4_takesFigure_28 k x1 Q  I → wH D cs b G I s H locs → lv_has ls 3 [] → W p l e rm_X4_takesFigure s m args below meth c H locs 0 0 (MQ below (va_Qi (Q) (wPo D cs b G) (fun q => b ≤ q)) args s 0 0 (fun q => b ≤ q)) (F0 m 28 ls []) := by
  obtain ⟨hX, hr, hlk, hK, hE⟩ := id C0
  have hx := hX.1
  have hb := hX.2.1
  have hown := hX.2.2.2.1
  have hts := hX.2.2.2.2
  intro  I H locs ls hq hH hl
  unfold v_X4_takesFigure_28 at hq
  refine lv_iconst (v := 0) hx hb dX4_takesFigure_28 (by decide) ?_
  exact w_eZ (by decide) hX hr hlk hH hq dX4_takesFigure_29
set_option maxRecDepth 100000 in
set_option maxHeartbeats 4000000 in
theorem c_X4_takesFigure {l : Launch} {D : va_G} {cs : wC4} {ad : Nat → Nat} {b : Nat} {G : wG} {k : Nat} (hs : wSh k = (0, 4)) (x1 : Int32) (I : wI) (hp : pre_X4_takesFigure k x1 I) : Met l yX4_takesFigure (ws_ yX4_takesFigure cX4_takesFigure 3 (some .boolean)) rm_X4_takesFigure (va_Pc [.ref (b + k), .int x1] (wPr D cs ad b G I)) (va_Qi (fun r I' => post_X4_takesFigure k x1 I r I') (wPo D cs b G) (fun q => b ≤ q)) 0 0 (fun q => b ≤ q) := by
  have hq := vc_X4_takesFigure k x1 I hp
  refine w_met (by decide) (Nat.le_of_ble_eq_true rfl) ?_
  intro p e s m below meth c hX hr hlk hK hE hH ls hl
  have C0 : wCx p m c s _ meth cX4_takesFigure 3 RX4 (some .boolean) D cs ad b := ⟨hX, hr, hlk, hK, hE⟩
  have hX : CallFix p m c cX4_takesFigure 3 s _ lw_all RX4 := hX
  have hx := hX.1
  have hb := hX.2.1
  have hown := hX.2.2.2.1
  have hts := hX.2.2.2.2
  have hl : lv_has ls 3 [(0, .ref (b + k)), (1, .int x1)] := hl
  unfold v_X4_takesFigure at hq
  refine lv_aload_n hx hb dX4_takesFigure_0 rfl (lv_at hl 0 rfl) ?_
  refine w_geti hX hK hH ck4 hs 8 fi4_8 q1_117 dX4_takesFigure_1 ?_
  refine lv_iconst (v := 1) hx hb dX4_takesFigure_4 (by decide) ?_
  refine lv_isub hx hb dX4_takesFigure_5 ?_
  refine lv_istore_n (lv' := [(2, .int ((I k 8) - (1 : Int32))), (0, .ref (b + k)), (1, .int x1)]) hx hb dX4_takesFigure_6 rfl hl (by decide) rfl (fun ls hl => ?_)
  refine lv_iload_n hx hb dX4_takesFigure_7 rfl (lv_at hl 2 rfl) ?_
  refine lv_bipush (v := 50) hx hb dX4_takesFigure_8 (by decide) ?_
  refine lv_icmp_lt (tgt := 28) hx hb dX4_takesFigure_10 (by decide) (fun hc => ?_) (fun hc => ?_)
  · have hq := hq.1 hc
    exact s_X4_takesFigure_28 hs C0   _ _ _ _ hq hH (lv_sub hl [] rfl)
  · have hq := hq.2 hc
    refine lv_iload_n hx hb dX4_takesFigure_13 rfl (lv_at hl 2 rfl) ?_
    refine lv_bipush (v := 57) hx hb dX4_takesFigure_14 (by decide) ?_
    refine lv_icmp_gt (tgt := 28) hx hb dX4_takesFigure_16 (by decide) (fun hc => ?_) (fun hc => ?_)
    · have hq := hq.1 hc
      exact s_X4_takesFigure_28 hs C0   _ _ _ _ hq hH (lv_sub hl [] rfl)
    · have hq := hq.2 hc
      refine lv_iload_n hx hb dX4_takesFigure_19 rfl (lv_at hl 0 rfl) ?_
      refine lv_if_lt (tgt := 28) hx hb dX4_takesFigure_20 (by decide) (fun hc => ?_) (fun hc => ?_)
      · have hq := hq.1 hc
        exact s_X4_takesFigure_28 hs C0   _ _ _ _ hq hH (lv_sub hl [] rfl)
      · have hq := hq.2 hc
        refine lv_iload_n hx hb dX4_takesFigure_23 rfl (lv_at hl 0 rfl) ?_
        refine lv_iconst (v := 4) hx hb dX4_takesFigure_24 (by decide) ?_
        refine lv_icmp_lt (tgt := 30) hx hb dX4_takesFigure_25 (by decide) (fun hc => ?_) (fun hc => ?_)
        · have hq := hq.1 hc
          refine lv_aload_n hx hb dX4_takesFigure_30 rfl (lv_at hl 1 rfl) ?_
          refine lv_iconst (v := 0) hx hb dX4_takesFigure_31 (by decide) ?_
          refine w_putz (by decide) hX hK hH ck4 hs 10 fw4_10 q1_119 dX4_takesFigure_32 (fun I1 H locs hI hH => ?_)
          have hq := hq I1 hI
          refine lv_aload_n hx hb dX4_takesFigure_35 rfl (lv_at hl 1 rfl) ?_
          refine lv_iload_n hx hb dX4_takesFigure_36 rfl (lv_at hl 0 rfl) ?_
          refine w_puti hX hK hH ck4 hs 8 fw4_8 q1_117 dX4_takesFigure_37 (fun I2 H locs hI hH => ?_)
          have hq := hq I2 hI
          refine lv_aload_n hx hb dX4_takesFigure_40 rfl (lv_at hl 1 rfl) ?_
          refine lv_aload_n hx hb dX4_takesFigure_41 rfl (lv_at hl 1 rfl) ?_
          refine w_getr hX hK hH ck4 hs 6 4 (k + 4) fr4_6 rfl q1_115 dX4_takesFigure_42 ?_
          refine lv_iload_n hx hb dX4_takesFigure_45 rfl (lv_at hl 0 rfl) ?_
          obtain ⟨hc, hq⟩ := hq
          refine w_iald hX hK hH (sf4_6 hs) hc dX4_takesFigure_46 ?_
          refine lv_iload_n hx hb dX4_takesFigure_47 rfl (lv_at hl 2 rfl) ?_
          refine lv_bipush (v := 48) hx hb dX4_takesFigure_48 (by decide) ?_
          refine lv_isub hx hb dX4_takesFigure_50 ?_
          obtain ⟨hp, hq⟩ := hq
          refine w_cV hH (w_rV (As := [.int (I2 (k + 4) (((I k 8) - (1 : Int32))).toNatClampNeg), .int (x1 - (48 : Int32))]) (rest := []) hX hK hE hH (c_X4_repeat hs _ _ _ hp) ck4 hs q2_41 q2_43 qs5 q1_5 q2_44 hd_X4_repeat ⟨Nat.le_of_ble_eq_true rfl, Nat.le_of_ble_eq_true rfl⟩ ⟨rfl, rfl⟩ rfl hl.1 rfl (Nat.le_of_ble_eq_true rfl) dX4_takesFigure_51 ⟨Nat.zero_le _, Nat.zero_le _⟩) (fun  I3 H locs hpo hH => ?_)
          have hq := hq  I3 hpo
          refine lv_iconst (v := 1) hx hb dX4_takesFigure_54 (by decide) ?_
          exact w_eZ (by decide) hX hr hlk hH hq dX4_takesFigure_55
        · have hq := hq.2 hc
          exact s_X4_takesFigure_28 hs C0   _ _ _ _ hq hH (lv_sub hl [] rfl)
abbrev rm_X4_takesMove : Room := { frames := 1, cells := 0, slots := 0, locals := 21 }
theorem hd_X4_takesMove : yX4_takesMove.cls = RX4 ∧ yX4_takesMove.cls ≠ "java/lang/invoke/MethodHandle" ∧ yX4_takesMove.cls ≠ "java/lang/invoke/VarHandle" ∧ (parseMethodDescriptor yX4_takesMove.desc).map (fun d => d.parameters.length) = some 1 := by decide +kernel
set_option maxRecDepth 100000 in
set_option maxHeartbeats 4000000 in
theorem c_X4_takesMove {l : Launch} {D : va_G} {cs : wC4} {ad : Nat → Nat} {b : Nat} {G : wG} {k : Nat} (hs : wSh k = (0, 4)) (x1 : Int32) (I : wI) (hp : pre_X4_takesMove k x1 I) : Met l yX4_takesMove (ws_ yX4_takesMove cX4_takesMove 2 (some .boolean)) rm_X4_takesMove (va_Pc [.ref (b + k), .int x1] (wPr D cs ad b G I)) (va_Qi (fun r I' => post_X4_takesMove k x1 I r I') (wPo D cs b G) (fun q => b ≤ q)) 0 0 (fun q => b ≤ q) := by
  have hq := vc_X4_takesMove k x1 I hp
  refine w_met (by decide) (Nat.le_of_ble_eq_true rfl) ?_
  intro p e s m below meth c hX hr hlk hK hE hH ls hl
  have C0 : wCx p m c s _ meth cX4_takesMove 2 RX4 (some .boolean) D cs ad b := ⟨hX, hr, hlk, hK, hE⟩
  have hX : CallFix p m c cX4_takesMove 2 s _ lw_all RX4 := hX
  have hx := hX.1
  have hb := hX.2.1
  have hown := hX.2.2.2.1
  have hts := hX.2.2.2.2
  have hl : lv_has ls 2 [(0, .ref (b + k)), (1, .int x1)] := hl
  unfold v_X4_takesMove at hq
  refine lv_aload_n hx hb dX4_takesMove_0 rfl (lv_at hl 0 rfl) ?_
  refine lv_iload_n hx hb dX4_takesMove_1 rfl (lv_at hl 1 rfl) ?_
  obtain ⟨hp, hq⟩ := hq
  refine w_cV hH (w_rV (As := [.int x1]) (rest := []) hX hK hE hH (c_X4_addMove hs _ _ hp) ck4 hs q2_49 q2_51 qs6 q1_5 q2_52 hd_X4_addMove ⟨Nat.le_of_ble_eq_true rfl, Nat.le_of_ble_eq_true rfl⟩ ⟨rfl, rfl⟩ rfl hl.1 rfl (Nat.le_of_ble_eq_true rfl) dX4_takesMove_2 ⟨Nat.zero_le _, Nat.zero_le _⟩) (fun  I1 H locs hpo hH => ?_)
  have hq := hq  I1 hpo
  refine lv_aload_n hx hb dX4_takesMove_5 rfl (lv_at hl 0 rfl) ?_
  refine lv_iconst (v := 1) hx hb dX4_takesMove_6 (by decide) ?_
  refine w_putz (by decide) hX hK hH ck4 hs 9 fw4_9 q1_118 dX4_takesMove_7 (fun I2 H locs hI hH => ?_)
  have hq := hq I2 hI
  refine lv_iconst (v := 1) hx hb dX4_takesMove_10 (by decide) ?_
  exact w_eZ (by decide) hX hr hlk hH hq dX4_takesMove_11
abbrev rm_X4_takesOpening : Room := { frames := 0, cells := 0, slots := 0, locals := 0 }
theorem hd_X4_takesOpening : yX4_takesOpening.cls = RX4 ∧ yX4_takesOpening.cls ≠ "java/lang/invoke/MethodHandle" ∧ yX4_takesOpening.cls ≠ "java/lang/invoke/VarHandle" ∧ (parseMethodDescriptor yX4_takesOpening.desc).map (fun d => d.parameters.length) = some 1 := by decide +kernel
set_option maxRecDepth 100000 in
set_option maxHeartbeats 4000000 in
theorem s_X4_takesOpening_15 {k : Nat} {x1 : Int32} {Q : Int32 → wI → Prop} (hs : wSh k = (0, 4)) (C0 : wCx p m c s args meth cX4_takesOpening 2 RX4 (some .boolean) D cs ad b) : ∀  (I : wI) (H : Heap) (locs : List Loc) (ls : Array Slot), v_X4_takesOpening_15 k x1 Q  I → wH D cs b G I s H locs → lv_has ls 2 [] → W p l e rm_X4_takesOpening s m args below meth c H locs 0 0 (MQ below (va_Qi (Q) (wPo D cs b G) (fun q => b ≤ q)) args s 0 0 (fun q => b ≤ q)) (F0 m 15 ls []) := by
  obtain ⟨hX, hr, hlk, hK, hE⟩ := id C0
  have hx := hX.1
  have hb := hX.2.1
  have hown := hX.2.2.2.1
  have hts := hX.2.2.2.2
  intro  I H locs ls hq hH hl
  unfold v_X4_takesOpening_15 at hq
  refine lv_iconst (v := 0) hx hb dX4_takesOpening_15 (by decide) ?_
  exact w_eZ (by decide) hX hr hlk hH hq dX4_takesOpening_16
set_option maxRecDepth 100000 in
set_option maxHeartbeats 4000000 in
theorem c_X4_takesOpening {l : Launch} {D : va_G} {cs : wC4} {ad : Nat → Nat} {b : Nat} {G : wG} {k : Nat} (hs : wSh k = (0, 4)) (x1 : Int32) (I : wI) (hp : pre_X4_takesOpening k x1 I) : Met l yX4_takesOpening (ws_ yX4_takesOpening cX4_takesOpening 2 (some .boolean)) rm_X4_takesOpening (va_Pc [.ref (b + k), .int x1] (wPr D cs ad b G I)) (va_Qi (fun r I' => post_X4_takesOpening k x1 I r I') (wPo D cs b G) (fun q => b ≤ q)) 0 0 (fun q => b ≤ q) := by
  have hq := vc_X4_takesOpening k x1 I hp
  refine w_met (by decide) (Nat.le_of_ble_eq_true rfl) ?_
  intro p e s m below meth c hX hr hlk hK hE hH ls hl
  have C0 : wCx p m c s _ meth cX4_takesOpening 2 RX4 (some .boolean) D cs ad b := ⟨hX, hr, hlk, hK, hE⟩
  have hX : CallFix p m c cX4_takesOpening 2 s _ lw_all RX4 := hX
  have hx := hX.1
  have hb := hX.2.1
  have hown := hX.2.2.2.1
  have hts := hX.2.2.2.2
  have hl : lv_has ls 2 [(0, .ref (b + k)), (1, .int x1)] := hl
  unfold v_X4_takesOpening at hq
  refine lv_aload_n hx hb dX4_takesOpening_0 rfl (lv_at hl 0 rfl) ?_
  refine w_geti hX hK hH ck4 hs 8 fi4_8 q1_117 dX4_takesOpening_1 ?_
  refine lv_if_lt (tgt := 15) hx hb dX4_takesOpening_4 (by decide) (fun hc => ?_) (fun hc => ?_)
  · have hq := hq.1 hc
    exact s_X4_takesOpening_15 hs C0   _ _ _ _ hq hH (lv_sub hl [] rfl)
  · have hq := hq.2 hc
    refine lv_aload_n hx hb dX4_takesOpening_7 rfl (lv_at hl 0 rfl) ?_
    refine w_geti hX hK hH ck4 hs 8 fi4_8 q1_117 dX4_takesOpening_8 ?_
    refine lv_iconst (v := 4) hx hb dX4_takesOpening_11 (by decide) ?_
    refine lv_icmp_lt (tgt := 17) hx hb dX4_takesOpening_12 (by decide) (fun hc => ?_) (fun hc => ?_)
    · have hq := hq.1 hc
      refine lv_aload_n hx hb dX4_takesOpening_17 rfl (lv_at hl 0 rfl) ?_
      refine w_getr hX hK hH ck4 hs 5 3 (k + 3) fr4_5 rfl q1_114 dX4_takesOpening_18 ?_
      refine lv_aload_n hx hb dX4_takesOpening_21 rfl (lv_at hl 0 rfl) ?_
      refine w_geti hX hK hH ck4 hs 8 fi4_8 q1_117 dX4_takesOpening_22 ?_
      refine lv_iload_n hx hb dX4_takesOpening_25 rfl (lv_at hl 1 rfl) ?_
      obtain ⟨hc, hq⟩ := hq
      refine w_iast hX hK hH (sf4_5 hs) hc dX4_takesOpening_26 (fun I1 H locs hI hH => ?_)
      have hq := hq I1 hI
      refine lv_aload_n hx hb dX4_takesOpening_27 rfl (lv_at hl 0 rfl) ?_
      refine w_getr hX hK hH ck4 hs 6 4 (k + 4) fr4_6 rfl q1_115 dX4_takesOpening_28 ?_
      refine lv_aload_n hx hb dX4_takesOpening_31 rfl (lv_at hl 0 rfl) ?_
      refine w_geti hX hK hH ck4 hs 8 fi4_8 q1_117 dX4_takesOpening_32 ?_
      refine lv_aload_n hx hb dX4_takesOpening_35 rfl (lv_at hl 0 rfl) ?_
      refine w_geti hX hK hH ck4 hs 3 fi4_3 q1_110 dX4_takesOpening_36 ?_
      obtain ⟨hc, hq⟩ := hq
      refine w_iast hX hK hH (sf4_6 hs) hc dX4_takesOpening_39 (fun I2 H locs hI hH => ?_)
      have hq := hq I2 hI
      refine lv_aload_n hx hb dX4_takesOpening_40 rfl (lv_at hl 0 rfl) ?_
      refine w_getr hX hK hH ck4 hs 7 5 (k + 5) fr4_7 rfl q1_116 dX4_takesOpening_41 ?_
      refine lv_aload_n hx hb dX4_takesOpening_44 rfl (lv_at hl 0 rfl) ?_
      refine w_geti hX hK hH ck4 hs 8 fi4_8 q1_117 dX4_takesOpening_45 ?_
      refine lv_aload_n hx hb dX4_takesOpening_48 rfl (lv_at hl 0 rfl) ?_
      refine w_geti hX hK hH ck4 hs 3 fi4_3 q1_110 dX4_takesOpening_49 ?_
      obtain ⟨hc, hq⟩ := hq
      refine w_iast hX hK hH (sf4_7 hs) hc dX4_takesOpening_52 (fun I3 H locs hI hH => ?_)
      have hq := hq I3 hI
      refine lv_aload_n hx hb dX4_takesOpening_53 rfl (lv_at hl 0 rfl) ?_
      refine lv_dup hx hb dX4_takesOpening_54 rfl ?_
      refine w_geti hX hK hH ck4 hs 8 fi4_8 q1_117 dX4_takesOpening_55 ?_
      refine lv_iconst (v := 1) hx hb dX4_takesOpening_58 (by decide) ?_
      refine lv_iadd hx hb dX4_takesOpening_59 ?_
      refine w_puti hX hK hH ck4 hs 8 fw4_8 q1_117 dX4_takesOpening_60 (fun I4 H locs hI hH => ?_)
      have hq := hq I4 hI
      refine lv_aload_n hx hb dX4_takesOpening_63 rfl (lv_at hl 0 rfl) ?_
      refine lv_iconst (v := 0) hx hb dX4_takesOpening_64 (by decide) ?_
      refine w_putz (by decide) hX hK hH ck4 hs 9 fw4_9 q1_118 dX4_takesOpening_65 (fun I5 H locs hI hH => ?_)
      have hq := hq I5 hI
      refine lv_iconst (v := 1) hx hb dX4_takesOpening_68 (by decide) ?_
      exact w_eZ (by decide) hX hr hlk hH hq dX4_takesOpening_69
    · have hq := hq.2 hc
      exact s_X4_takesOpening_15 hs C0   _ _ _ _ hq hH (lv_sub hl [] rfl)
abbrev rm_X5_opposite : Room := { frames := 1, cells := 0, slots := 0, locals := 21 }
theorem hd_X5_opposite : yX5_opposite.cls = RX5 ∧ yX5_opposite.cls ≠ "java/lang/invoke/MethodHandle" ∧ yX5_opposite.cls ≠ "java/lang/invoke/VarHandle" ∧ (parseMethodDescriptor yX5_opposite.desc).map (fun d => d.parameters.length) = some 1 := by decide +kernel
set_option maxRecDepth 100000 in
set_option maxHeartbeats 4000000 in
theorem s_X5_opposite_16 {x0 : Int32} {I : wI} {Q : Int32 → Prop} (C0 : wCx p m c s args meth cX5_opposite 1 RX5 (some .int) D cs ad b) : ∀ (t0 : Int32) (t1 : Int32) (H : Heap) (locs : List Loc) (ls : Array Slot), v_X5_opposite_16 x0 I Q t0 t1 → wH D cs b G I s H locs → lv_has ls 1 [] → W p l e rm_X5_opposite s m args below meth c H locs 0 0 (MQ below (va_Qi (fun r I' => I' = I ∧ Q r) (wPo D cs b G) (fun q => b ≤ q)) args s 0 0 (fun q => b ≤ q)) (F0 m 16 ls [.int t0, .int t1]) := by
  obtain ⟨hX, hr, hlk, hK, hE⟩ := id C0
  have hx := hX.1
  have hb := hX.2.1
  have hown := hX.2.2.2.1
  have hts := hX.2.2.2.2
  intro t0 t1 H locs ls hq hH hl
  unfold v_X5_opposite_16 at hq
  obtain ⟨hp, hq⟩ := hq
  refine w_cIp hH (w_rS (As := [.int t1, .int t0]) (rest := []) hX hK hE hH (c_X5_moveOf  _ _ _ hp) q2_81 q2_54 q1_1 q2_55 hd_X5_moveOf.2 ⟨Nat.le_of_ble_eq_true rfl, Nat.le_of_ble_eq_true rfl⟩ ⟨rfl, rfl⟩ rfl hl.1 rfl (Nat.le_of_ble_eq_true rfl) dX5_opposite_16 ⟨Nat.zero_le _, Nat.zero_le _⟩) (fun r1  H locs hpo hH => ?_)
  have hq := hq r1  hpo
  exact w_eI hX hr hlk hH ⟨rfl, hq⟩ dX5_opposite_19
set_option maxRecDepth 100000 in
set_option maxHeartbeats 4000000 in
theorem c_X5_opposite {l : Launch} {D : va_G} {cs : wC4} {ad : Nat → Nat} {b : Nat} {G : wG} (x0 : Int32) (I : wI) (hp : pre_X5_opposite x0 I) : Met l yX5_opposite (ws_ yX5_opposite cX5_opposite 1 (some .int)) rm_X5_opposite (va_Pc [.int x0] (wPr D cs ad b G I)) (va_Qi (fun r I' => I' = I ∧ post_X5_opposite x0 I r) (wPo D cs b G) (fun q => b ≤ q)) 0 0 (fun q => b ≤ q) := by
  have hq := vc_X5_opposite x0 I hp
  refine w_met (by decide) (Nat.le_of_ble_eq_true rfl) ?_
  intro p e s m below meth c hX hr hlk hK hE hH ls hl
  have C0 : wCx p m c s _ meth cX5_opposite 1 RX5 (some .int) D cs ad b := ⟨hX, hr, hlk, hK, hE⟩
  have hX : CallFix p m c cX5_opposite 1 s _ lw_all RX5 := hX
  have hx := hX.1
  have hb := hX.2.1
  have hown := hX.2.2.2.1
  have hts := hX.2.2.2.2
  have hl : lv_has ls 1 [(0, .int x0)] := hl
  unfold v_X5_opposite at hq
  refine lv_iload_n hx hb dX5_opposite_0 rfl (lv_at hl 0 rfl) ?_
  obtain ⟨hp, hq⟩ := hq
  refine w_cIp hH (w_rS (As := [.int x0]) (rest := []) hX hK hE hH (c_X5_keyOf  _ _ hp) q2_75 q2_76 q1_1 q2_77 hd_X5_keyOf.2 ⟨Nat.le_of_ble_eq_true rfl, Nat.le_of_ble_eq_true rfl⟩ ⟨rfl, rfl⟩ rfl hl.1 rfl (Nat.le_of_ble_eq_true rfl) dX5_opposite_1 ⟨Nat.zero_le _, Nat.zero_le _⟩) (fun r1  H locs hpo hH => ?_)
  have hq := hq r1  hpo
  refine lv_iload_n hx hb dX5_opposite_4 rfl (lv_at hl 0 rfl) ?_
  obtain ⟨hp, hq⟩ := hq
  refine w_cIp hH (w_rS (As := [.int x0]) (rest := [.int r1]) hX hK hE hH (c_X5_isBack  _ _ hp) q2_78 q2_79 q1_1 q2_80 hd_X5_isBack.2 ⟨Nat.le_of_ble_eq_true rfl, Nat.le_of_ble_eq_true rfl⟩ ⟨rfl, rfl⟩ rfl hl.1 rfl (Nat.le_of_ble_eq_true rfl) dX5_opposite_5 ⟨Nat.zero_le _, Nat.zero_le _⟩) (fun r2  H locs hpo hH => ?_)
  have hq := hq r2  hpo
  refine lv_if_ne (tgt := 15) hx hb dX5_opposite_8 (by decide) (fun hc => ?_) (fun hc => ?_)
  · have hq := hq.1 hc
    refine lv_iconst (v := 0) hx hb dX5_opposite_15 (by decide) ?_
    exact s_X5_opposite_16  C0  (0 : Int32) r1 _ _ _ hq hH (lv_sub hl [] rfl)
  · have hq := hq.2 hc
    refine lv_iconst (v := 1) hx hb dX5_opposite_11 (by decide) ?_
    refine lv_goto (tgt := 16) hx hb dX5_opposite_12 (by decide) ?_
    exact s_X5_opposite_16  C0  (1 : Int32) r1 _ _ _ hq hH (lv_sub hl [] rfl)
end
