section
variable {p : Program} {l : Launch} {e : Env} {s : State} {m : MethodId} {args : Array Value} {below : List Frame} {meth : Method} {c : Code} {D : va_G} {cs : wC4} {ad : Nat → Nat} {b : Nat} {G : wG}
abbrev rm_X0_putAhead : Room := { frames := 1, cells := 0, slots := 0, locals := 21 }
theorem hd_X0_putAhead : yX0_putAhead.cls = RX0 ∧ yX0_putAhead.cls ≠ "java/lang/invoke/MethodHandle" ∧ yX0_putAhead.cls ≠ "java/lang/invoke/VarHandle" ∧ (parseMethodDescriptor yX0_putAhead.desc).map (fun d => d.parameters.length) = some 1 := by decide +kernel
set_option maxRecDepth 100000 in
set_option maxHeartbeats 4000000 in
theorem s_X0_putAhead_2 {k : Nat} {k1 : Nat} {Q : wI → Prop} (hs : wSh k = (0, 0)) (hs1 : wSh k1 = (0, 0)) (C0 : wCx p m c s args meth cX0_putAhead 4 RX0 none D cs ad b) : ∀ (f : Nat) (v2 : Int32) (I : wI) (H : Heap) (locs : List Loc) (ls : Array Slot), v_X0_putAhead_2 k k1 Q f v2 I → wH D cs b G I s H locs → lv_has ls 4 [(0, .ref (G.1 k)), (1, .ref (G.1 k1)), (2, .int v2)] → W p l e rm_X0_putAhead s m args below meth c H locs 0 0 (MQ below (va_Qv (Q) (wPo D cs b G) (fun q => b ≤ q)) args s 0 0 (fun q => b ≤ q)) (F0 m 2 ls []) := by
  obtain ⟨hX, hr, hlk, hK, hE⟩ := id C0
  have hx := hX.1
  have hb := hX.2.1
  have hown := hX.2.2.2.1
  have hts := hX.2.2.2.2
  intro f
  induction f with
  | zero =>
    intro v2 I H locs ls hq
    exact hq.elim
  | succ f hK2 =>
    intro v2 I H locs ls hq hH hl
    have hq : g_X0_putAhead_2 k k1 Q (v_X0_putAhead_2 k k1 Q f) v2 I := hq
    unfold g_X0_putAhead_2 at hq
    refine lv_iload_n hx hb dX0_putAhead_2 rfl (lv_at hl 2 rfl) ?_
    refine lv_bipush (v := 6) hx hb dX0_putAhead_3 (by decide) ?_
    refine lv_icmp_ge (tgt := 52) hx hb dX0_putAhead_5 (by decide) (fun hc => ?_) (fun hc => ?_)
    · have hq := hq.1 hc
      exact w_eV hX hr hlk hH hq dX0_putAhead_52
    · have hq := hq.2 hc
      refine lv_aload_n hx hb dX0_putAhead_8 rfl (lv_at hl 0 rfl) ?_
      refine w_getr hX hK hH ck0 hs 0 1 (k + 1) fr0_0 rfl q1_35 dX0_putAhead_9 ?_
      refine lv_iload_n hx hb dX0_putAhead_12 rfl (lv_at hl 2 rfl) ?_
      obtain ⟨hc, hq⟩ := hq
      refine w_iald hX hK hH (sf0_0 hs) hc dX0_putAhead_13 ?_
      refine lv_istore_n (lv' := [(3, .int (I (k + 1) (v2).toNatClampNeg)), (0, .ref (G.1 k)), (1, .ref (G.1 k1)), (2, .int v2)]) hx hb dX0_putAhead_14 rfl hl (by decide) rfl (fun ls hl => ?_)
      refine lv_aload_n hx hb dX0_putAhead_15 rfl (lv_at hl 1 rfl) ?_
      refine w_getr hX hK hH ck0 hs 0 1 (k + 1) fr0_0 rfl q1_35 dX0_putAhead_16 ?_
      refine lv_iload_n hx hb dX0_putAhead_19 rfl (lv_at hl 3 rfl) ?_
      refine lv_aload_n hx hb dX0_putAhead_20 rfl (lv_at hl 2 rfl) ?_
      refine lv_iload_n hx hb dX0_putAhead_21 rfl (lv_at hl 0 rfl) ?_
      obtain ⟨hp, hq⟩ := hq
      refine w_cIp hH (w_rV (As := [.int (I (k + 1) (v2).toNatClampNeg)]) (rest := [.int v2, .ref (G.1 (k + 1))]) hX hK hE hH (c_X0_discAt hs1 _ _ hp) ck0 hs1 q2_112 q2_101 q2_102 q1_3 q2_103 hd_X0_discAt ⟨Nat.le_of_ble_eq_true rfl, Nat.le_of_ble_eq_true rfl⟩ ⟨rfl, rfl⟩ rfl hl.1 rfl (Nat.le_of_ble_eq_true rfl) dX0_putAhead_22 ⟨Nat.zero_le _, Nat.zero_le _⟩) (fun r1  H locs hpo hH => ?_)
      have hq := hq r1  hpo
      obtain ⟨hc, hq⟩ := hq
      refine w_iast hX hK hH (sf0_0 hs) hc dX0_putAhead_25 (fun I2 H locs hI hH => ?_)
      have hq := hq I2 hI
      refine lv_aload_n hx hb dX0_putAhead_26 rfl (lv_at hl 1 rfl) ?_
      refine w_getr hX hK hH ck0 hs 1 2 (k + 2) fr0_1 rfl q1_36 dX0_putAhead_27 ?_
      refine lv_iload_n hx hb dX0_putAhead_30 rfl (lv_at hl 3 rfl) ?_
      refine lv_aload_n hx hb dX0_putAhead_31 rfl (lv_at hl 1 rfl) ?_
      refine w_getr hX hK hH ck0 hs 1 2 (k + 2) fr0_1 rfl q1_36 dX0_putAhead_32 ?_
      refine lv_iload_n hx hb dX0_putAhead_35 rfl (lv_at hl 3 rfl) ?_
      obtain ⟨hc, hq⟩ := hq
      refine w_iald hX hK hH (sf0_1 hs) hc dX0_putAhead_36 ?_
      refine lv_aload_n hx hb dX0_putAhead_37 rfl (lv_at hl 2 rfl) ?_
      refine lv_iload_n hx hb dX0_putAhead_38 rfl (lv_at hl 0 rfl) ?_
      obtain ⟨hp, hq⟩ := hq
      refine w_cIp hH (w_rV (As := [.int (I (k + 1) (v2).toNatClampNeg)]) (rest := [.int (I2 (k + 2) (v2).toNatClampNeg), .int v2, .ref (G.1 (k + 2))]) hX hK hE hH (c_X0_notchAt hs1 _ _ hp) ck0 hs1 q2_113 q2_105 q2_106 q1_3 q2_107 hd_X0_notchAt ⟨Nat.le_of_ble_eq_true rfl, Nat.le_of_ble_eq_true rfl⟩ ⟨rfl, rfl⟩ rfl hl.1 rfl (Nat.le_of_ble_eq_true rfl) dX0_putAhead_39 ⟨Nat.zero_le _, Nat.zero_le _⟩) (fun r3  H locs hpo hH => ?_)
      have hq := hq r3  hpo
      refine lv_iadd hx hb dX0_putAhead_42 ?_
      refine lv_iconst (v := 5) hx hb dX0_putAhead_43 (by decide) ?_
      refine lv_irem hx hb dX0_putAhead_44 (by decide) ?_
      obtain ⟨hc, hq⟩ := hq
      refine w_iast hX hK hH (sf0_1 hs) hc dX0_putAhead_45 (fun I4 H locs hI hH => ?_)
      have hq := hq I4 hI
      refine lv_iinc (v := (v2 + (1 : Int32))) (lv' := [(2, .int (v2 + (1 : Int32))), (3, .int (I (k + 1) (v2).toNatClampNeg)), (0, .ref (G.1 k)), (1, .ref (G.1 k1))]) hx hb dX0_putAhead_46 hl (k := 3) rfl rfl (by decide) rfl (fun ls hl => ?_)
      refine lv_goto (tgt := 2) hx hb dX0_putAhead_49 (by decide) ?_
      exact hK2 (v2 + (1 : Int32)) _ _ _ _ hq hH (lv_sub hl [2, 3, 0] rfl)
set_option maxRecDepth 100000 in
set_option maxHeartbeats 4000000 in
theorem c_X0_putAhead {l : Launch} {D : va_G} {cs : wC4} {ad : Nat → Nat} {b : Nat} {G : wG} {k : Nat} {k1 : Nat} (hs : wSh k = (0, 0)) (hs1 : wSh k1 = (0, 0))  (I : wI) (hp : pre_X0_putAhead k k1 I) : Met l yX0_putAhead (ws_ yX0_putAhead cX0_putAhead 4 none) rm_X0_putAhead (va_Pc [.ref (G.1 k), .ref (G.1 k1)] (wPr D cs ad b G I)) (va_Qv (fun I' => post_X0_putAhead k k1 I I') (wPo D cs b G) (fun q => b ≤ q)) 0 0 (fun q => b ≤ q) := by
  have hq := vc_X0_putAhead k k1 I hp
  refine w_met (by decide) (Nat.le_of_ble_eq_true rfl) ?_
  intro p e s m below meth c hX hr hlk hK hE hH ls hl
  have C0 : wCx p m c s _ meth cX0_putAhead 4 RX0 none D cs ad b := ⟨hX, hr, hlk, hK, hE⟩
  have hX : CallFix p m c cX0_putAhead 4 s _ lw_all RX0 := hX
  have hx := hX.1
  have hb := hX.2.1
  have hown := hX.2.2.2.1
  have hts := hX.2.2.2.2
  have hl : lv_has ls 4 [(0, .ref (G.1 k)), (1, .ref (G.1 k1))] := hl
  unfold v_X0_putAhead at hq
  refine lv_iconst (v := 0) hx hb dX0_putAhead_0 (by decide) ?_
  refine lv_istore_n (lv' := [(2, .int (0 : Int32)), (0, .ref (G.1 k)), (1, .ref (G.1 k1))]) hx hb dX0_putAhead_1 rfl hl (by decide) rfl (fun ls hl => ?_)
  obtain ⟨f, hq⟩ := hq
  exact s_X0_putAhead_2 hs hs1 C0  f (0 : Int32) _ _ _ _ hq hH (lv_sub hl [1, 2, 0] rfl)
abbrev rm_X5_periodByDoing : Room := { frames := 2, cells := 0, slots := 0, locals := 44 }
theorem hd_X5_periodByDoing : yX5_periodByDoing.cls = RX5 ∧ yX5_periodByDoing.cls ≠ "java/lang/invoke/MethodHandle" ∧ yX5_periodByDoing.cls ≠ "java/lang/invoke/VarHandle" ∧ (parseMethodDescriptor yX5_periodByDoing.desc).map (fun d => d.parameters.length) = some 0 := by decide +kernel
set_option maxRecDepth 100000 in
set_option maxHeartbeats 4000000 in
theorem s_X5_periodByDoing_47 {Q : Int32 → wI → Prop} (C0 : wCx p m c s args meth cX5_periodByDoing 2 RX5 (some .int) D cs ad b) : ∀ (v1 : Int32) (I : wI) (H : Heap) (locs : List Loc) (ls : Array Slot), v_X5_periodByDoing_47 Q v1 I → wH D cs b G I s H locs → lv_has ls 2 [(1, .int v1)] → W p l e rm_X5_periodByDoing s m args below meth c H locs 0 0 (MQ below (va_Qi (Q) (wPo D cs b G) (fun q => b ≤ q)) args s 0 0 (fun q => b ≤ q)) (F0 m 47 ls []) := by
  obtain ⟨hX, hr, hlk, hK, hE⟩ := id C0
  have hx := hX.1
  have hb := hX.2.1
  have hown := hX.2.2.2.1
  have hts := hX.2.2.2.2
  intro v1 I H locs ls hq hH hl
  unfold v_X5_periodByDoing_47 at hq
  refine lv_iload_n hx hb dX5_periodByDoing_47 rfl (lv_at hl 0 rfl) ?_
  exact w_eI hX hr hlk hH hq dX5_periodByDoing_48
set_option maxRecDepth 100000 in
set_option maxHeartbeats 4000000 in
theorem s_X5_periodByDoing_13 {Q : Int32 → wI → Prop} (C0 : wCx p m c s args meth cX5_periodByDoing 2 RX5 (some .int) D cs ad b) : ∀ (f : Nat) (v1 : Int32) (I : wI) (H : Heap) (locs : List Loc) (ls : Array Slot), v_X5_periodByDoing_13 Q f v1 I → wH D cs b G I s H locs → lv_has ls 2 [(0, .ref (G.1 0)), (1, .int v1)] → W p l e rm_X5_periodByDoing s m args below meth c H locs 0 0 (MQ below (va_Qi (Q) (wPo D cs b G) (fun q => b ≤ q)) args s 0 0 (fun q => b ≤ q)) (F0 m 13 ls []) := by
  obtain ⟨hX, hr, hlk, hK, hE⟩ := id C0
  have hx := hX.1
  have hb := hX.2.1
  have hown := hX.2.2.2.1
  have hts := hX.2.2.2.2
  intro f
  induction f with
  | zero =>
    intro v1 I H locs ls hq
    exact hq.elim
  | succ f hK13 =>
    intro v1 I H locs ls hq hH hl
    have hq : g_X5_periodByDoing_13 Q (v_X5_periodByDoing_13 Q f) v1 I := hq
    unfold g_X5_periodByDoing_13 at hq
    refine lv_iload_n hx hb dX5_periodByDoing_13 rfl (lv_at hl 1 rfl) ?_
    refine lv_ldcw hx hb hown (hts _ q2_185) dX5_periodByDoing_14 ?_
    refine lv_icmp_ge (tgt := 47) hx hb dX5_periodByDoing_17 (by decide) (fun hc => ?_) (fun hc => ?_)
    · have hq := hq.1 hc
      exact s_X5_periodByDoing_47  C0  v1 _ _ _ _ hq hH (lv_sub hl [1] rfl)
    · have hq := hq.2 hc
      refine lv_aload_n hx hb dX5_periodByDoing_20 rfl (lv_at hl 0 rfl) ?_
      refine w_getr hX hK hH ck5 sh0 7 33 33 fr5_7 rfl q1_179 dX5_periodByDoing_21 ?_
      obtain ⟨hp, hq⟩ := hq
      refine w_cIp hH (w_rV (As := []) (rest := []) hX hK hE hH (c_X0_reach (sf5_7 sh0)  _ hp) ck0 (sf5_7 sh0) q2_186 q2_187 q2_188 q1_3 q2_189 hd_X0_reach ⟨Nat.le_of_ble_eq_true rfl, Nat.le_of_ble_eq_true rfl⟩ ⟨rfl, rfl⟩ rfl hl.1 rfl (Nat.le_of_ble_eq_true rfl) dX5_periodByDoing_24 ⟨Nat.zero_le _, Nat.zero_le _⟩) (fun r1  H locs hpo hH => ?_)
      have hq := hq r1  hpo
      refine lv_if_eq (tgt := 47) hx hb dX5_periodByDoing_27 (by decide) (fun hc => ?_) (fun hc => ?_)
      · have hq := hq.1 hc
        exact s_X5_periodByDoing_47  C0  v1 _ _ _ _ hq hH (lv_sub hl [1] rfl)
      · have hq := hq.2 hc
        refine lv_aload_n hx hb dX5_periodByDoing_30 rfl (lv_at hl 0 rfl) ?_
        refine w_getr hX hK hH ck5 sh0 7 33 33 fr5_7 rfl q1_179 dX5_periodByDoing_31 ?_
        refine lv_aload_n hx hb dX5_periodByDoing_34 rfl (lv_at hl 0 rfl) ?_
        refine w_getr hX hK hH ck5 sh0 6 30 30 fr5_6 rfl q1_178 dX5_periodByDoing_35 ?_
        obtain ⟨hp, hq⟩ := hq
        refine w_cV hH (w_rV (As := [.ref (G.1 30)]) (rest := []) hX hK hE hH (c_X0_putAhead (sf5_7 sh0) (sf5_6 sh0)  _ hp) ck0 (sf5_7 sh0) q2_190 q2_191 q2_192 q1_3 q2_193 hd_X0_putAhead ⟨Nat.le_of_ble_eq_true rfl, Nat.le_of_ble_eq_true rfl⟩ ⟨rfl, rfl⟩ rfl hl.1 rfl (Nat.le_of_ble_eq_true rfl) dX5_periodByDoing_38 ⟨Nat.zero_le _, Nat.zero_le _⟩) (fun  I2 H locs hpo hH => ?_)
        have hq := hq  I2 hpo
        refine lv_iinc (v := (v1 + (1 : Int32))) (lv' := [(1, .int (v1 + (1 : Int32))), (0, .ref (G.1 0))]) hx hb dX5_periodByDoing_41 hl (k := 1) rfl rfl (by decide) rfl (fun ls hl => ?_)
        refine lv_goto (tgt := 13) hx hb dX5_periodByDoing_44 (by decide) ?_
        exact hK13 (v1 + (1 : Int32)) _ _ _ _ hq hH (lv_sub hl [1, 0] rfl)
set_option maxRecDepth 100000 in
set_option maxHeartbeats 4000000 in
theorem c_X5_periodByDoing {l : Launch} {D : va_G} {cs : wC4} {ad : Nat → Nat} {b : Nat} {G : wG}  (I : wI) (hp : pre_X5_periodByDoing  I) : Met l yX5_periodByDoing (ws_ yX5_periodByDoing cX5_periodByDoing 2 (some .int)) rm_X5_periodByDoing (va_Pc [.ref (G.1 0)] (wPr D cs ad b G I)) (va_Qi (fun r I' => post_X5_periodByDoing  I r I') (wPo D cs b G) (fun q => b ≤ q)) 0 0 (fun q => b ≤ q) := by
  have hq := vc_X5_periodByDoing  I hp
  refine w_met (by decide) (Nat.le_of_ble_eq_true rfl) ?_
  intro p e s m below meth c hX hr hlk hK hE hH ls hl
  have C0 : wCx p m c s _ meth cX5_periodByDoing 2 RX5 (some .int) D cs ad b := ⟨hX, hr, hlk, hK, hE⟩
  have hX : CallFix p m c cX5_periodByDoing 2 s _ lw_all RX5 := hX
  have hx := hX.1
  have hb := hX.2.1
  have hown := hX.2.2.2.1
  have hts := hX.2.2.2.2
  have hl : lv_has ls 2 [(0, .ref (G.1 0))] := hl
  unfold v_X5_periodByDoing at hq
  refine lv_aload_n hx hb dX5_periodByDoing_0 rfl (lv_at hl 0 rfl) ?_
  refine w_getr hX hK hH ck5 sh0 7 33 33 fr5_7 rfl q1_179 dX5_periodByDoing_1 ?_
  refine lv_aload_n hx hb dX5_periodByDoing_4 rfl (lv_at hl 0 rfl) ?_
  refine w_getr hX hK hH ck5 sh0 6 30 30 fr5_6 rfl q1_178 dX5_periodByDoing_5 ?_
  obtain ⟨hp, hq⟩ := hq
  refine w_cV hH (w_rV (As := [.ref (G.1 30)]) (rest := []) hX hK hE hH (c_X0_copyFrom (sf5_7 sh0) (sf5_6 sh0)  _ hp) ck0 (sf5_7 sh0) q2_184 q2_45 q2_46 q1_3 q2_47 hd_X0_copyFrom ⟨Nat.le_of_ble_eq_true rfl, Nat.le_of_ble_eq_true rfl⟩ ⟨rfl, rfl⟩ rfl hl.1 rfl (Nat.le_of_ble_eq_true rfl) dX5_periodByDoing_8 ⟨Nat.zero_le _, Nat.zero_le _⟩) (fun  I1 H locs hpo hH => ?_)
  have hq := hq  I1 hpo
  refine lv_iconst (v := 1) hx hb dX5_periodByDoing_11 (by decide) ?_
  refine lv_istore_n (lv' := [(1, .int (1 : Int32)), (0, .ref (G.1 0))]) hx hb dX5_periodByDoing_12 rfl hl (by decide) rfl (fun ls hl => ?_)
  obtain ⟨f, hq⟩ := hq
  exact s_X5_periodByDoing_13  C0  f (1 : Int32) _ _ _ _ hq hH (lv_sub hl [1, 0] rfl)
abbrev rm_X0_placeOf : Room := { frames := 0, cells := 0, slots := 0, locals := 0 }
theorem hd_X0_placeOf : yX0_placeOf.cls = RX0 ∧ yX0_placeOf.cls ≠ "java/lang/invoke/MethodHandle" ∧ yX0_placeOf.cls ≠ "java/lang/invoke/VarHandle" ∧ (parseMethodDescriptor yX0_placeOf.desc).map (fun d => d.parameters.length) = some 1 := by decide +kernel
set_option maxRecDepth 100000 in
set_option maxHeartbeats 4000000 in
theorem s_X0_placeOf_22 {k : Nat} {x1 : Int32} {I : wI} {Q : Int32 → Prop} {K4 : Int32 → Int32 → Prop} (hs : wSh k = (0, 0)) (C0 : wCx p m c s args meth cX0_placeOf 4 RX0 (some .int) D cs ad b) (hK4 : ∀ (v2 : Int32) (v3 : Int32) (H : Heap) (locs : List Loc) (ls : Array Slot), K4 v2 v3 → wH D cs b G I s H locs → lv_has ls 4 [(0, .ref (G.1 k)), (1, .int x1), (2, .int v2), (3, .int v3)] → W p l e rm_X0_placeOf s m args below meth c H locs 0 0 (MQ below (va_Qi (fun r I' => I' = I ∧ Q r) (wPo D cs b G) (fun q => b ≤ q)) args s 0 0 (fun q => b ≤ q)) (F0 m 4 ls [])) : ∀ (v2 : Int32) (v3 : Int32) (H : Heap) (locs : List Loc) (ls : Array Slot), v_X0_placeOf_22 k x1 I Q K4 v2 v3 → wH D cs b G I s H locs → lv_has ls 4 [(0, .ref (G.1 k)), (1, .int x1), (2, .int v2), (3, .int v3)] → W p l e rm_X0_placeOf s m args below meth c H locs 0 0 (MQ below (va_Qi (fun r I' => I' = I ∧ Q r) (wPo D cs b G) (fun q => b ≤ q)) args s 0 0 (fun q => b ≤ q)) (F0 m 22 ls []) := by
  obtain ⟨hX, hr, hlk, hK, hE⟩ := id C0
  have hx := hX.1
  have hb := hX.2.1
  have hown := hX.2.2.2.1
  have hts := hX.2.2.2.2
  intro v2 v3 H locs ls hq hH hl
  unfold v_X0_placeOf_22 at hq
  refine lv_iinc (v := (v3 + (1 : Int32))) (lv' := [(3, .int (v3 + (1 : Int32))), (0, .ref (G.1 k)), (1, .int x1), (2, .int v2)]) hx hb dX0_placeOf_22 hl (k := 3) rfl rfl (by decide) rfl (fun ls hl => ?_)
  refine lv_goto (tgt := 4) hx hb dX0_placeOf_25 (by decide) ?_
  exact hK4 v2 (v3 + (1 : Int32)) _ _ _ hq hH (lv_sub hl [1, 2, 3, 0] rfl)
set_option maxRecDepth 100000 in
set_option maxHeartbeats 4000000 in
theorem s_X0_placeOf_4 {k : Nat} {x1 : Int32} {I : wI} {Q : Int32 → Prop} (hs : wSh k = (0, 0)) (C0 : wCx p m c s args meth cX0_placeOf 4 RX0 (some .int) D cs ad b) : ∀ (f : Nat) (v2 : Int32) (v3 : Int32) (H : Heap) (locs : List Loc) (ls : Array Slot), v_X0_placeOf_4 k x1 I Q f v2 v3 → wH D cs b G I s H locs → lv_has ls 4 [(0, .ref (G.1 k)), (1, .int x1), (2, .int v2), (3, .int v3)] → W p l e rm_X0_placeOf s m args below meth c H locs 0 0 (MQ below (va_Qi (fun r I' => I' = I ∧ Q r) (wPo D cs b G) (fun q => b ≤ q)) args s 0 0 (fun q => b ≤ q)) (F0 m 4 ls []) := by
  obtain ⟨hX, hr, hlk, hK, hE⟩ := id C0
  have hx := hX.1
  have hb := hX.2.1
  have hown := hX.2.2.2.1
  have hts := hX.2.2.2.2
  intro f
  induction f with
  | zero =>
    intro v2 v3 H locs ls hq
    exact hq.elim
  | succ f hK4 =>
    intro v2 v3 H locs ls hq hH hl
    have hq : g_X0_placeOf_4 k x1 I Q (v_X0_placeOf_4 k x1 I Q f) v2 v3 := hq
    unfold g_X0_placeOf_4 at hq
    refine lv_iload_n hx hb dX0_placeOf_4 rfl (lv_at hl 3 rfl) ?_
    refine lv_bipush (v := 6) hx hb dX0_placeOf_5 (by decide) ?_
    refine lv_icmp_ge (tgt := 28) hx hb dX0_placeOf_7 (by decide) (fun hc => ?_) (fun hc => ?_)
    · have hq := hq.1 hc
      refine lv_iload_n hx hb dX0_placeOf_28 rfl (lv_at hl 2 rfl) ?_
      exact w_eI hX hr hlk hH ⟨rfl, hq⟩ dX0_placeOf_29
    · have hq := hq.2 hc
      refine lv_aload_n hx hb dX0_placeOf_10 rfl (lv_at hl 0 rfl) ?_
      refine w_getr hX hK hH ck0 hs 0 1 (k + 1) fr0_0 rfl q1_35 dX0_placeOf_11 ?_
      refine lv_iload_n hx hb dX0_placeOf_14 rfl (lv_at hl 3 rfl) ?_
      obtain ⟨hc, hq⟩ := hq
      refine w_iald hX hK hH (sf0_0 hs) hc dX0_placeOf_15 ?_
      refine lv_iload_n hx hb dX0_placeOf_16 rfl (lv_at hl 1 rfl) ?_
      refine lv_icmp_ne (tgt := 22) hx hb dX0_placeOf_17 (by decide) (fun hc => ?_) (fun hc => ?_)
      · have hq := hq.1 hc
        exact s_X0_placeOf_22 hs C0 hK4 v2 v3 _ _ _ hq hH (lv_sub hl [0, 1, 2, 3] rfl)
      · have hq := hq.2 hc
        refine lv_iload_n hx hb dX0_placeOf_20 rfl (lv_at hl 3 rfl) ?_
        refine lv_istore_n (lv' := [(2, .int v3), (0, .ref (G.1 k)), (1, .int x1), (3, .int v3)]) hx hb dX0_placeOf_21 rfl hl (by decide) rfl (fun ls hl => ?_)
        exact s_X0_placeOf_22 hs C0 hK4 v3 v3 _ _ _ hq hH (lv_sub hl [1, 2, 0, 3] rfl)
set_option maxRecDepth 100000 in
set_option maxHeartbeats 4000000 in
theorem c_X0_placeOf {l : Launch} {D : va_G} {cs : wC4} {ad : Nat → Nat} {b : Nat} {G : wG} {k : Nat} (hs : wSh k = (0, 0)) (x1 : Int32) (I : wI) (hp : pre_X0_placeOf k x1 I) : Met l yX0_placeOf (ws_ yX0_placeOf cX0_placeOf 4 (some .int)) rm_X0_placeOf (va_Pc [.ref (G.1 k), .int x1] (wPr D cs ad b G I)) (va_Qi (fun r I' => I' = I ∧ post_X0_placeOf k x1 I r) (wPo D cs b G) (fun q => b ≤ q)) 0 0 (fun q => b ≤ q) := by
  have hq := vc_X0_placeOf k x1 I hp
  refine w_met (by decide) (Nat.le_of_ble_eq_true rfl) ?_
  intro p e s m below meth c hX hr hlk hK hE hH ls hl
  have C0 : wCx p m c s _ meth cX0_placeOf 4 RX0 (some .int) D cs ad b := ⟨hX, hr, hlk, hK, hE⟩
  have hX : CallFix p m c cX0_placeOf 4 s _ lw_all RX0 := hX
  have hx := hX.1
  have hb := hX.2.1
  have hown := hX.2.2.2.1
  have hts := hX.2.2.2.2
  have hl : lv_has ls 4 [(0, .ref (G.1 k)), (1, .int x1)] := hl
  unfold v_X0_placeOf at hq
  refine lv_iload_n hx hb dX0_placeOf_0 rfl (lv_at hl 1 rfl) ?_
  refine lv_istore_n (lv' := [(2, .int x1), (0, .ref (G.1 k)), (1, .int x1)]) hx hb dX0_placeOf_1 rfl hl (by decide) rfl (fun ls hl => ?_)
  refine lv_iconst (v := 0) hx hb dX0_placeOf_2 (by decide) ?_
  refine lv_istore_n (lv' := [(3, .int (0 : Int32)), (2, .int x1), (0, .ref (G.1 k)), (1, .int x1)]) hx hb dX0_placeOf_3 rfl hl (by decide) rfl (fun ls hl => ?_)
  obtain ⟨f, hq⟩ := hq
  exact s_X0_placeOf_4 hs C0  f x1 (0 : Int32) _ _ _ hq hH (lv_sub hl [2, 3, 1, 0] rfl)
abbrev rm_X0_leastMultiple : Room := { frames := 0, cells := 0, slots := 0, locals := 0 }
theorem hd_X0_leastMultiple : yX0_leastMultiple.cls = RX0 ∧ yX0_leastMultiple.cls ≠ "java/lang/invoke/MethodHandle" ∧ yX0_leastMultiple.cls ≠ "java/lang/invoke/VarHandle" ∧ (parseMethodDescriptor yX0_leastMultiple.desc).map (fun d => d.parameters.length) = some 2 := by decide +kernel
set_option maxRecDepth 100000 in
set_option maxHeartbeats 4000000 in
theorem s_X0_leastMultiple_25 {x0 : Int32} {x1 : Int32} {I : wI} {Q : Int32 → Prop} (C0 : wCx p m c s args meth cX0_leastMultiple 4 RX0 (some .int) D cs ad b) : ∀ (v2 : Int32) (H : Heap) (locs : List Loc) (ls : Array Slot), v_X0_leastMultiple_25 x0 x1 I Q v2 → wH D cs b G I s H locs → lv_has ls 4 [(2, .int v2)] → W p l e rm_X0_leastMultiple s m args below meth c H locs 0 0 (MQ below (va_Qi (fun r I' => I' = I ∧ Q r) (wPo D cs b G) (fun q => b ≤ q)) args s 0 0 (fun q => b ≤ q)) (F0 m 25 ls []) := by
  obtain ⟨hX, hr, hlk, hK, hE⟩ := id C0
  have hx := hX.1
  have hb := hX.2.1
  have hown := hX.2.2.2.1
  have hts := hX.2.2.2.2
  intro v2 H locs ls hq hH hl
  unfold v_X0_leastMultiple_25 at hq
  refine lv_iload_n hx hb dX0_leastMultiple_25 rfl (lv_at hl 0 rfl) ?_
  exact w_eI hX hr hlk hH ⟨rfl, hq⟩ dX0_leastMultiple_26
set_option maxRecDepth 100000 in
set_option maxHeartbeats 4000000 in
theorem s_X0_leastMultiple_4 {x0 : Int32} {x1 : Int32} {I : wI} {Q : Int32 → Prop} (C0 : wCx p m c s args meth cX0_leastMultiple 4 RX0 (some .int) D cs ad b) : ∀ (f : Nat) (v2 : Int32) (v3 : Int32) (H : Heap) (locs : List Loc) (ls : Array Slot), v_X0_leastMultiple_4 x0 x1 I Q f v2 v3 → wH D cs b G I s H locs → lv_has ls 4 [(0, .int x0), (1, .int x1), (2, .int v2), (3, .int v3)] → W p l e rm_X0_leastMultiple s m args below meth c H locs 0 0 (MQ below (va_Qi (fun r I' => I' = I ∧ Q r) (wPo D cs b G) (fun q => b ≤ q)) args s 0 0 (fun q => b ≤ q)) (F0 m 4 ls []) := by
  obtain ⟨hX, hr, hlk, hK, hE⟩ := id C0
  have hx := hX.1
  have hb := hX.2.1
  have hown := hX.2.2.2.1
  have hts := hX.2.2.2.2
  intro f
  induction f with
  | zero =>
    intro v2 v3 H locs ls hq
    exact hq.elim
  | succ f hK4 =>
    intro v2 v3 H locs ls hq hH hl
    have hq : g_X0_leastMultiple_4 x0 x1 I Q (v_X0_leastMultiple_4 x0 x1 I Q f) v2 v3 := hq
    unfold g_X0_leastMultiple_4 at hq
    refine lv_iload_n hx hb dX0_leastMultiple_4 rfl (lv_at hl 3 rfl) ?_
    refine lv_iload_n hx hb dX0_leastMultiple_5 rfl (lv_at hl 1 rfl) ?_
    refine lv_icmp_ge (tgt := 25) hx hb dX0_leastMultiple_6 (by decide) (fun hc => ?_) (fun hc => ?_)
    · have hq := hq.1 hc
      exact s_X0_leastMultiple_25  C0  v2 _ _ _ hq hH (lv_sub hl [2] rfl)
    · have hq := hq.2 hc
      refine lv_iload_n hx hb dX0_leastMultiple_9 rfl (lv_at hl 2 rfl) ?_
      refine lv_iload_n hx hb dX0_leastMultiple_10 rfl (lv_at hl 1 rfl) ?_
      obtain ⟨hc, hq⟩ := hq
      refine lv_irem hx hb dX0_leastMultiple_11 hc ?_
      refine lv_if_eq (tgt := 25) hx hb dX0_leastMultiple_12 (by decide) (fun hc => ?_) (fun hc => ?_)
      · have hq := hq.1 hc
        exact s_X0_leastMultiple_25  C0  v2 _ _ _ hq hH (lv_sub hl [2] rfl)
      · have hq := hq.2 hc
        refine lv_iload_n hx hb dX0_leastMultiple_15 rfl (lv_at hl 2 rfl) ?_
        refine lv_iload_n hx hb dX0_leastMultiple_16 rfl (lv_at hl 0 rfl) ?_
        refine lv_iadd hx hb dX0_leastMultiple_17 ?_
        refine lv_istore_n (lv' := [(2, .int (v2 + x0)), (0, .int x0), (1, .int x1), (3, .int v3)]) hx hb dX0_leastMultiple_18 rfl hl (by decide) rfl (fun ls hl => ?_)
        refine lv_iinc (v := (v3 + (1 : Int32))) (lv' := [(3, .int (v3 + (1 : Int32))), (2, .int (v2 + x0)), (0, .int x0), (1, .int x1)]) hx hb dX0_leastMultiple_19 hl (k := 3) rfl rfl (by decide) rfl (fun ls hl => ?_)
        refine lv_goto (tgt := 4) hx hb dX0_leastMultiple_22 (by decide) ?_
        exact hK4 (v2 + x0) (v3 + (1 : Int32)) _ _ _ hq hH (lv_sub hl [2, 3, 1, 0] rfl)
set_option maxRecDepth 100000 in
set_option maxHeartbeats 4000000 in
theorem c_X0_leastMultiple {l : Launch} {D : va_G} {cs : wC4} {ad : Nat → Nat} {b : Nat} {G : wG} (x0 : Int32) (x1 : Int32) (I : wI) (hp : pre_X0_leastMultiple x0 x1 I) : Met l yX0_leastMultiple (ws_ yX0_leastMultiple cX0_leastMultiple 4 (some .int)) rm_X0_leastMultiple (va_Pc [.int x0, .int x1] (wPr D cs ad b G I)) (va_Qi (fun r I' => I' = I ∧ post_X0_leastMultiple x0 x1 I r) (wPo D cs b G) (fun q => b ≤ q)) 0 0 (fun q => b ≤ q) := by
  have hq := vc_X0_leastMultiple x0 x1 I hp
  refine w_met (by decide) (Nat.le_of_ble_eq_true rfl) ?_
  intro p e s m below meth c hX hr hlk hK hE hH ls hl
  have C0 : wCx p m c s _ meth cX0_leastMultiple 4 RX0 (some .int) D cs ad b := ⟨hX, hr, hlk, hK, hE⟩
  have hX : CallFix p m c cX0_leastMultiple 4 s _ lw_all RX0 := hX
  have hx := hX.1
  have hb := hX.2.1
  have hown := hX.2.2.2.1
  have hts := hX.2.2.2.2
  have hl : lv_has ls 4 [(0, .int x0), (1, .int x1)] := hl
  unfold v_X0_leastMultiple at hq
  refine lv_iload_n hx hb dX0_leastMultiple_0 rfl (lv_at hl 0 rfl) ?_
  refine lv_istore_n (lv' := [(2, .int x0), (0, .int x0), (1, .int x1)]) hx hb dX0_leastMultiple_1 rfl hl (by decide) rfl (fun ls hl => ?_)
  refine lv_iconst (v := 1) hx hb dX0_leastMultiple_2 (by decide) ?_
  refine lv_istore_n (lv' := [(3, .int (1 : Int32)), (2, .int x0), (0, .int x0), (1, .int x1)]) hx hb dX0_leastMultiple_3 rfl hl (by decide) rfl (fun ls hl => ?_)
  obtain ⟨f, hq⟩ := hq
  exact s_X0_leastMultiple_4  C0  f x0 (1 : Int32) _ _ _ hq hH (lv_sub hl [2, 3, 1, 0] rfl)
abbrev rm_X0_periodByRounds : Room := { frames := 1, cells := 0, slots := 0, locals := 23 }
theorem hd_X0_periodByRounds : yX0_periodByRounds.cls = RX0 ∧ yX0_periodByRounds.cls ≠ "java/lang/invoke/MethodHandle" ∧ yX0_periodByRounds.cls ≠ "java/lang/invoke/VarHandle" ∧ (parseMethodDescriptor yX0_periodByRounds.desc).map (fun d => d.parameters.length) = some 0 := by decide +kernel
set_option maxRecDepth 100000 in
set_option maxHeartbeats 4000000 in
theorem s_X0_periodByRounds_95 {k : Nat} {I : wI} {Q : Int32 → Prop} {K6 : Int32 → Int32 → Int32 → Prop} (hs : wSh k = (0, 0)) (C0 : wCx p m c s args meth cX0_periodByRounds 7 RX0 (some .int) D cs ad b) (hK6 : ∀ (v1 : Int32) (v2 : Int32) (v3 : Int32) (H : Heap) (locs : List Loc) (ls : Array Slot), K6 v1 v2 v3 → wH D cs b G I s H locs → lv_has ls 7 [(0, .ref (G.1 k)), (1, .int v1), (2, .int v2), (3, .int v3)] → W p l e rm_X0_periodByRounds s m args below meth c H locs 0 0 (MQ below (va_Qi (fun r I' => I' = I ∧ Q r) (wPo D cs b G) (fun q => b ≤ q)) args s 0 0 (fun q => b ≤ q)) (F0 m 6 ls [])) : ∀ (v1 : Int32) (v2 : Int32) (v3 : Int32) (H : Heap) (locs : List Loc) (ls : Array Slot), v_X0_periodByRounds_95 k I Q K6 v1 v2 v3 → wH D cs b G I s H locs → lv_has ls 7 [(0, .ref (G.1 k)), (1, .int v1), (2, .int v2), (3, .int v3)] → W p l e rm_X0_periodByRounds s m args below meth c H locs 0 0 (MQ below (va_Qi (fun r I' => I' = I ∧ Q r) (wPo D cs b G) (fun q => b ≤ q)) args s 0 0 (fun q => b ≤ q)) (F0 m 95 ls []) := by
  obtain ⟨hX, hr, hlk, hK, hE⟩ := id C0
  have hx := hX.1
  have hb := hX.2.1
  have hown := hX.2.2.2.1
  have hts := hX.2.2.2.2
  intro v1 v2 v3 H locs ls hq hH hl
  unfold v_X0_periodByRounds_95 at hq
  refine lv_iinc (v := (v3 + (1 : Int32))) (lv' := [(3, .int (v3 + (1 : Int32))), (0, .ref (G.1 k)), (1, .int v1), (2, .int v2)]) hx hb dX0_periodByRounds_95 hl (k := 3) rfl rfl (by decide) rfl (fun ls hl => ?_)
  refine lv_goto (tgt := 6) hx hb dX0_periodByRounds_98 (by decide) ?_
  exact hK6 v1 v2 (v3 + (1 : Int32)) _ _ _ hq hH (lv_sub hl [1, 2, 3, 0] rfl)
set_option maxRecDepth 100000 in
set_option maxHeartbeats 4000000 in
theorem s_X0_periodByRounds_91 {k : Nat} {I : wI} {Q : Int32 → Prop} {K6 : Int32 → Int32 → Int32 → Prop} (hs : wSh k = (0, 0)) (C0 : wCx p m c s args meth cX0_periodByRounds 7 RX0 (some .int) D cs ad b) (hK6 : ∀ (v1 : Int32) (v2 : Int32) (v3 : Int32) (H : Heap) (locs : List Loc) (ls : Array Slot), K6 v1 v2 v3 → wH D cs b G I s H locs → lv_has ls 7 [(0, .ref (G.1 k)), (1, .int v1), (2, .int v2), (3, .int v3)] → W p l e rm_X0_periodByRounds s m args below meth c H locs 0 0 (MQ below (va_Qi (fun r I' => I' = I ∧ Q r) (wPo D cs b G) (fun q => b ≤ q)) args s 0 0 (fun q => b ≤ q)) (F0 m 6 ls [])) : ∀ (v2 : Int32) (v3 : Int32) (t0 : Int32) (t1 : Int32) (H : Heap) (locs : List Loc) (ls : Array Slot), v_X0_periodByRounds_91 k I Q K6 v2 v3 t0 t1 → wH D cs b G I s H locs → lv_has ls 7 [(0, .ref (G.1 k)), (2, .int v2), (3, .int v3)] → W p l e rm_X0_periodByRounds s m args below meth c H locs 0 0 (MQ below (va_Qi (fun r I' => I' = I ∧ Q r) (wPo D cs b G) (fun q => b ≤ q)) args s 0 0 (fun q => b ≤ q)) (F0 m 91 ls [.int t0, .int t1]) := by
  obtain ⟨hX, hr, hlk, hK, hE⟩ := id C0
  have hx := hX.1
  have hb := hX.2.1
  have hown := hX.2.2.2.1
  have hts := hX.2.2.2.2
  intro v2 v3 t0 t1 H locs ls hq hH hl
  unfold v_X0_periodByRounds_91 at hq
  obtain ⟨hp, hq⟩ := hq
  refine w_cIp hH (w_rS (As := [.int t1, .int t0]) (rest := []) hX hK hE hH (c_X0_leastMultiple  _ _ _ hp) q2_202 q2_203 q1_3 q2_204 hd_X0_leastMultiple.2 ⟨Nat.le_of_ble_eq_true rfl, Nat.le_of_ble_eq_true rfl⟩ ⟨rfl, rfl⟩ rfl hl.1 rfl (Nat.le_of_ble_eq_true rfl) dX0_periodByRounds_91 ⟨Nat.zero_le _, Nat.zero_le _⟩) (fun r1  H locs hpo hH => ?_)
  have hq := hq r1  hpo
  refine lv_istore_n (lv' := [(1, .int r1), (0, .ref (G.1 k)), (2, .int v2), (3, .int v3)]) hx hb dX0_periodByRounds_94 rfl hl (by decide) rfl (fun ls hl => ?_)
  exact s_X0_periodByRounds_95 hs C0 hK6 r1 v2 v3 _ _ _ hq hH (lv_sub hl [1, 0, 2, 3] rfl)
set_option maxRecDepth 100000 in
set_option maxHeartbeats 4000000 in
theorem s_X0_periodByRounds_69 {k : Nat} {I : wI} {Q : Int32 → Prop} {K6 : Int32 → Int32 → Int32 → Prop} (hs : wSh k = (0, 0)) (C0 : wCx p m c s args meth cX0_periodByRounds 7 RX0 (some .int) D cs ad b) (hK6 : ∀ (v1 : Int32) (v2 : Int32) (v3 : Int32) (H : Heap) (locs : List Loc) (ls : Array Slot), K6 v1 v2 v3 → wH D cs b G I s H locs → lv_has ls 7 [(0, .ref (G.1 k)), (1, .int v1), (2, .int v2), (3, .int v3)] → W p l e rm_X0_periodByRounds s m args below meth c H locs 0 0 (MQ below (va_Qi (fun r I' => I' = I ∧ Q r) (wPo D cs b G) (fun q => b ≤ q)) args s 0 0 (fun q => b ≤ q)) (F0 m 6 ls [])) : ∀ (v1 : Int32) (v2 : Int32) (v3 : Int32) (v4 : Int32) (v5 : Int32) (H : Heap) (locs : List Loc) (ls : Array Slot), v_X0_periodByRounds_69 k I Q K6 v1 v2 v3 v4 v5 → wH D cs b G I s H locs → lv_has ls 7 [(0, .ref (G.1 k)), (1, .int v1), (2, .int v2), (3, .int v3), (4, .int v4), (5, .int v5)] → W p l e rm_X0_periodByRounds s m args below meth c H locs 0 0 (MQ below (va_Qi (fun r I' => I' = I ∧ Q r) (wPo D cs b G) (fun q => b ≤ q)) args s 0 0 (fun q => b ≤ q)) (F0 m 69 ls []) := by
  obtain ⟨hX, hr, hlk, hK, hE⟩ := id C0
  have hx := hX.1
  have hb := hX.2.1
  have hown := hX.2.2.2.1
  have hts := hX.2.2.2.2
  intro v1 v2 v3 v4 v5 H locs ls hq hH hl
  unfold v_X0_periodByRounds_69 at hq
  refine lv_iload hx hb dX0_periodByRounds_69 (lv_at hl 4 rfl) ?_
  refine lv_if_le (tgt := 95) hx hb dX0_periodByRounds_71 (by decide) (fun hc => ?_) (fun hc => ?_)
  · have hq := hq.1 hc
    exact s_X0_periodByRounds_95 hs C0 hK6 v1 v2 v3 _ _ _ hq hH (lv_sub hl [0, 1, 2, 3] rfl)
  · have hq := hq.2 hc
    refine lv_iload_n hx hb dX0_periodByRounds_74 rfl (lv_at hl 1 rfl) ?_
    refine lv_iload hx hb dX0_periodByRounds_75 (lv_at hl 5 rfl) ?_
    refine lv_iconst (v := 5) hx hb dX0_periodByRounds_77 (by decide) ?_
    refine lv_irem hx hb dX0_periodByRounds_78 (by decide) ?_
    refine lv_if_ne (tgt := 87) hx hb dX0_periodByRounds_79 (by decide) (fun hc => ?_) (fun hc => ?_)
    · have hq := hq.1 hc
      refine lv_iconst (v := 5) hx hb dX0_periodByRounds_87 (by decide) ?_
      refine lv_iload hx hb dX0_periodByRounds_88 (lv_at hl 4 rfl) ?_
      refine lv_imul hx hb dX0_periodByRounds_90 ?_
      exact s_X0_periodByRounds_91 hs C0 hK6 v2 v3 ((5 : Int32) * v4) v1 _ _ _ hq hH (lv_sub hl [0, 2, 3] rfl)
    · have hq := hq.2 hc
      refine lv_iload hx hb dX0_periodByRounds_82 (lv_at hl 4 rfl) ?_
      refine lv_goto (tgt := 91) hx hb dX0_periodByRounds_84 (by decide) ?_
      exact s_X0_periodByRounds_91 hs C0 hK6 v2 v3 v4 v1 _ _ _ hq hH (lv_sub hl [0, 2, 3] rfl)
set_option maxRecDepth 100000 in
set_option maxHeartbeats 4000000 in
theorem s_X0_periodByRounds_21 {k : Nat} {I : wI} {Q : Int32 → Prop} {K6 : Int32 → Int32 → Int32 → Prop} (hs : wSh k = (0, 0)) (C0 : wCx p m c s args meth cX0_periodByRounds 7 RX0 (some .int) D cs ad b) (hK6 : ∀ (v1 : Int32) (v2 : Int32) (v3 : Int32) (H : Heap) (locs : List Loc) (ls : Array Slot), K6 v1 v2 v3 → wH D cs b G I s H locs → lv_has ls 7 [(0, .ref (G.1 k)), (1, .int v1), (2, .int v2), (3, .int v3)] → W p l e rm_X0_periodByRounds s m args below meth c H locs 0 0 (MQ below (va_Qi (fun r I' => I' = I ∧ Q r) (wPo D cs b G) (fun q => b ≤ q)) args s 0 0 (fun q => b ≤ q)) (F0 m 6 ls [])) : ∀ (f : Nat) (v1 : Int32) (v2 : Int32) (v3 : Int32) (v4 : Int32) (v5 : Int32) (v6 : Int32) (H : Heap) (locs : List Loc) (ls : Array Slot), v_X0_periodByRounds_21 k I Q K6 f v1 v2 v3 v4 v5 v6 → wH D cs b G I s H locs → lv_has ls 7 [(0, .ref (G.1 k)), (1, .int v1), (2, .int v2), (3, .int v3), (4, .int v4), (5, .int v5), (6, .int v6)] → W p l e rm_X0_periodByRounds s m args below meth c H locs 0 0 (MQ below (va_Qi (fun r I' => I' = I ∧ Q r) (wPo D cs b G) (fun q => b ≤ q)) args s 0 0 (fun q => b ≤ q)) (F0 m 21 ls []) := by
  obtain ⟨hX, hr, hlk, hK, hE⟩ := id C0
  have hx := hX.1
  have hb := hX.2.1
  have hown := hX.2.2.2.1
  have hts := hX.2.2.2.2
  intro f
  induction f with
  | zero =>
    intro v1 v2 v3 v4 v5 v6 H locs ls hq
    exact hq.elim
  | succ f hK21 =>
    intro v1 v2 v3 v4 v5 v6 H locs ls hq hH hl
    have hq : g_X0_periodByRounds_21 k I Q K6 (v_X0_periodByRounds_21 k I Q K6 f) v1 v2 v3 v4 v5 v6 := hq
    unfold g_X0_periodByRounds_21 at hq
    refine lv_iload hx hb dX0_periodByRounds_21 (lv_at hl 4 rfl) ?_
    refine lv_bipush (v := 6) hx hb dX0_periodByRounds_23 (by decide) ?_
    refine lv_icmp_ge (tgt := 69) hx hb dX0_periodByRounds_25 (by decide) (fun hc => ?_) (fun hc => ?_)
    · have hq := hq.1 hc
      exact s_X0_periodByRounds_69 hs C0 hK6 v1 v2 v3 v4 v5 _ _ _ hq hH (lv_sub hl [0, 1, 2, 3, 4, 5] rfl)
    · have hq := hq.2 hc
      refine lv_iload_n hx hb dX0_periodByRounds_28 rfl (lv_at hl 2 rfl) ?_
      refine lv_iload hx hb dX0_periodByRounds_29 (lv_at hl 6 rfl) ?_
      refine lv_ishr hx hb dX0_periodByRounds_31 ?_
      refine lv_iconst (v := 1) hx hb dX0_periodByRounds_32 (by decide) ?_
      refine lv_iand hx hb dX0_periodByRounds_33 ?_
      refine lv_if_ne (tgt := 69) hx hb dX0_periodByRounds_34 (by decide) (fun hc => ?_) (fun hc => ?_)
      · have hq := hq.1 hc
        exact s_X0_periodByRounds_69 hs C0 hK6 v1 v2 v3 v4 v5 _ _ _ hq hH (lv_sub hl [0, 1, 2, 3, 4, 5] rfl)
      · have hq := hq.2 hc
        refine lv_iload_n hx hb dX0_periodByRounds_37 rfl (lv_at hl 2 rfl) ?_
        refine lv_iconst (v := 1) hx hb dX0_periodByRounds_38 (by decide) ?_
        refine lv_iload hx hb dX0_periodByRounds_39 (lv_at hl 6 rfl) ?_
        refine lv_ishl hx hb dX0_periodByRounds_41 ?_
        refine lv_ior hx hb dX0_periodByRounds_42 ?_
        refine lv_istore_n (lv' := [(2, .int (v2 ||| ((1 : Int32) <<< (v6 &&& 31)))), (0, .ref (G.1 k)), (1, .int v1), (3, .int v3), (4, .int v4), (5, .int v5), (6, .int v6)]) hx hb dX0_periodByRounds_43 rfl hl (by decide) rfl (fun ls hl => ?_)
        refine lv_aload_n hx hb dX0_periodByRounds_44 rfl (lv_at hl 1 rfl) ?_
        refine lv_iload hx hb dX0_periodByRounds_45 (lv_at hl 6 rfl) ?_
        obtain ⟨hp, hq⟩ := hq
        refine w_cIp hH (w_rV (As := [.int v6]) (rest := []) hX hK hE hH (c_X0_placeOf hs _ _ hp) ck0 hs q2_198 q2_200 qs6 q1_3 q2_201 hd_X0_placeOf ⟨Nat.le_of_ble_eq_true rfl, Nat.le_of_ble_eq_true rfl⟩ ⟨rfl, rfl⟩ rfl hl.1 rfl (Nat.le_of_ble_eq_true rfl) dX0_periodByRounds_47 ⟨Nat.zero_le _, Nat.zero_le _⟩) (fun r1  H locs hpo hH => ?_)
        have hq := hq r1  hpo
        refine lv_istore (lv' := [(6, .int r1), (2, .int (v2 ||| ((1 : Int32) <<< (v6 &&& 31)))), (0, .ref (G.1 k)), (1, .int v1), (3, .int v3), (4, .int v4), (5, .int v5)]) hx hb dX0_periodByRounds_50 hl (by decide) rfl (fun ls hl => ?_)
        refine lv_iload hx hb dX0_periodByRounds_52 (lv_at hl 6 rfl) ?_
        refine lv_aload_n hx hb dX0_periodByRounds_54 rfl (lv_at hl 2 rfl) ?_
        refine lv_iload hx hb dX0_periodByRounds_55 (lv_at hl 0 rfl) ?_
        obtain ⟨hp, hq⟩ := hq
        refine w_cIp hH (w_rV (As := [.int r1]) (rest := [.int v5]) hX hK hE hH (c_X0_notchAt hs _ _ hp) ck0 hs q2_113 q2_105 q2_106 q1_3 q2_107 hd_X0_notchAt ⟨Nat.le_of_ble_eq_true rfl, Nat.le_of_ble_eq_true rfl⟩ ⟨rfl, rfl⟩ rfl hl.1 rfl (Nat.le_of_ble_eq_true rfl) dX0_periodByRounds_57 ⟨Nat.zero_le _, Nat.zero_le _⟩) (fun r2  H locs hpo hH => ?_)
        have hq := hq r2  hpo
        refine lv_iadd hx hb dX0_periodByRounds_60 ?_
        refine lv_istore (lv' := [(5, .int (v5 + r2)), (6, .int r1), (2, .int (v2 ||| ((1 : Int32) <<< (v6 &&& 31)))), (0, .ref (G.1 k)), (1, .int v1), (3, .int v3), (4, .int v4)]) hx hb dX0_periodByRounds_61 hl (by decide) rfl (fun ls hl => ?_)
        refine lv_iinc (v := (v4 + (1 : Int32))) (lv' := [(4, .int (v4 + (1 : Int32))), (5, .int (v5 + r2)), (6, .int r1), (2, .int (v2 ||| ((1 : Int32) <<< (v6 &&& 31)))), (0, .ref (G.1 k)), (1, .int v1), (3, .int v3)]) hx hb dX0_periodByRounds_63 hl (k := 6) rfl rfl (by decide) rfl (fun ls hl => ?_)
        refine lv_goto (tgt := 21) hx hb dX0_periodByRounds_66 (by decide) ?_
        exact hK21 v1 (v2 ||| ((1 : Int32) <<< (v6 &&& 31))) v3 (v4 + (1 : Int32)) (v5 + r2) r1 _ _ _ hq hH (lv_sub hl [4, 5, 3, 6, 0, 1, 2] rfl)
set_option maxRecDepth 100000 in
set_option maxHeartbeats 4000000 in
theorem s_X0_periodByRounds_6 {k : Nat} {I : wI} {Q : Int32 → Prop} (hs : wSh k = (0, 0)) (C0 : wCx p m c s args meth cX0_periodByRounds 7 RX0 (some .int) D cs ad b) : ∀ (f : Nat) (v1 : Int32) (v2 : Int32) (v3 : Int32) (H : Heap) (locs : List Loc) (ls : Array Slot), v_X0_periodByRounds_6 k I Q f v1 v2 v3 → wH D cs b G I s H locs → lv_has ls 7 [(0, .ref (G.1 k)), (1, .int v1), (2, .int v2), (3, .int v3)] → W p l e rm_X0_periodByRounds s m args below meth c H locs 0 0 (MQ below (va_Qi (fun r I' => I' = I ∧ Q r) (wPo D cs b G) (fun q => b ≤ q)) args s 0 0 (fun q => b ≤ q)) (F0 m 6 ls []) := by
  obtain ⟨hX, hr, hlk, hK, hE⟩ := id C0
  have hx := hX.1
  have hb := hX.2.1
  have hown := hX.2.2.2.1
  have hts := hX.2.2.2.2
  intro f
  induction f with
  | zero =>
    intro v1 v2 v3 H locs ls hq
    exact hq.elim
  | succ f hK6 =>
    intro v1 v2 v3 H locs ls hq hH hl
    have hq : g_X0_periodByRounds_6 k I Q (v_X0_periodByRounds_6 k I Q f) v1 v2 v3 := hq
    unfold g_X0_periodByRounds_6 at hq
    refine lv_iload_n hx hb dX0_periodByRounds_6 rfl (lv_at hl 3 rfl) ?_
    refine lv_bipush (v := 6) hx hb dX0_periodByRounds_7 (by decide) ?_
    refine lv_icmp_ge (tgt := 101) hx hb dX0_periodByRounds_9 (by decide) (fun hc => ?_) (fun hc => ?_)
    · have hq := hq.1 hc
      refine lv_iload_n hx hb dX0_periodByRounds_101 rfl (lv_at hl 1 rfl) ?_
      exact w_eI hX hr hlk hH ⟨rfl, hq⟩ dX0_periodByRounds_102
    · have hq := hq.2 hc
      refine lv_iconst (v := 0) hx hb dX0_periodByRounds_12 (by decide) ?_
      refine lv_istore (lv' := [(4, .int (0 : Int32)), (0, .ref (G.1 k)), (1, .int v1), (2, .int v2), (3, .int v3)]) hx hb dX0_periodByRounds_13 hl (by decide) rfl (fun ls hl => ?_)
      refine lv_iconst (v := 0) hx hb dX0_periodByRounds_15 (by decide) ?_
      refine lv_istore (lv' := [(5, .int (0 : Int32)), (4, .int (0 : Int32)), (0, .ref (G.1 k)), (1, .int v1), (2, .int v2), (3, .int v3)]) hx hb dX0_periodByRounds_16 hl (by decide) rfl (fun ls hl => ?_)
      refine lv_iload_n hx hb dX0_periodByRounds_18 rfl (lv_at hl 5 rfl) ?_
      refine lv_istore (lv' := [(6, .int v3), (5, .int (0 : Int32)), (4, .int (0 : Int32)), (0, .ref (G.1 k)), (1, .int v1), (2, .int v2), (3, .int v3)]) hx hb dX0_periodByRounds_19 hl (by decide) rfl (fun ls hl => ?_)
      obtain ⟨f, hq⟩ := hq
      exact s_X0_periodByRounds_21 hs C0 hK6 f v1 v2 v3 (0 : Int32) (0 : Int32) v3 _ _ _ hq hH (lv_sub hl [3, 4, 5, 6, 2, 1, 0] rfl)
set_option maxRecDepth 100000 in
set_option maxHeartbeats 4000000 in
theorem c_X0_periodByRounds {l : Launch} {D : va_G} {cs : wC4} {ad : Nat → Nat} {b : Nat} {G : wG} {k : Nat} (hs : wSh k = (0, 0))  (I : wI) (hp : pre_X0_periodByRounds k I) : Met l yX0_periodByRounds (ws_ yX0_periodByRounds cX0_periodByRounds 7 (some .int)) rm_X0_periodByRounds (va_Pc [.ref (G.1 k)] (wPr D cs ad b G I)) (va_Qi (fun r I' => I' = I ∧ post_X0_periodByRounds k I r) (wPo D cs b G) (fun q => b ≤ q)) 0 0 (fun q => b ≤ q) := by
  have hq := vc_X0_periodByRounds k I hp
  refine w_met (by decide) (Nat.le_of_ble_eq_true rfl) ?_
  intro p e s m below meth c hX hr hlk hK hE hH ls hl
  have C0 : wCx p m c s _ meth cX0_periodByRounds 7 RX0 (some .int) D cs ad b := ⟨hX, hr, hlk, hK, hE⟩
  have hX : CallFix p m c cX0_periodByRounds 7 s _ lw_all RX0 := hX
  have hx := hX.1
  have hb := hX.2.1
  have hown := hX.2.2.2.1
  have hts := hX.2.2.2.2
  have hl : lv_has ls 7 [(0, .ref (G.1 k))] := hl
  unfold v_X0_periodByRounds at hq
  refine lv_iconst (v := 1) hx hb dX0_periodByRounds_0 (by decide) ?_
  refine lv_istore_n (lv' := [(1, .int (1 : Int32)), (0, .ref (G.1 k))]) hx hb dX0_periodByRounds_1 rfl hl (by decide) rfl (fun ls hl => ?_)
  refine lv_iconst (v := 0) hx hb dX0_periodByRounds_2 (by decide) ?_
  refine lv_istore_n (lv' := [(2, .int (0 : Int32)), (1, .int (1 : Int32)), (0, .ref (G.1 k))]) hx hb dX0_periodByRounds_3 rfl hl (by decide) rfl (fun ls hl => ?_)
  refine lv_iconst (v := 0) hx hb dX0_periodByRounds_4 (by decide) ?_
  refine lv_istore_n (lv' := [(3, .int (0 : Int32)), (2, .int (0 : Int32)), (1, .int (1 : Int32)), (0, .ref (G.1 k))]) hx hb dX0_periodByRounds_5 rfl hl (by decide) rfl (fun ls hl => ?_)
  obtain ⟨f, hq⟩ := hq
  exact s_X0_periodByRounds_6 hs C0  f (1 : Int32) (0 : Int32) (0 : Int32) _ _ _ hq hH (lv_sub hl [3, 2, 1, 0] rfl)
abbrev rm_X3_usesOf : Room := { frames := 0, cells := 0, slots := 0, locals := 0 }
theorem hd_X3_usesOf : yX3_usesOf.cls = RX3 ∧ yX3_usesOf.cls ≠ "java/lang/invoke/MethodHandle" ∧ yX3_usesOf.cls ≠ "java/lang/invoke/VarHandle" ∧ (parseMethodDescriptor yX3_usesOf.desc).map (fun d => d.parameters.length) = some 1 := by decide +kernel
set_option maxRecDepth 100000 in
set_option maxHeartbeats 4000000 in
theorem s_X3_usesOf_19 {k : Nat} {x1 : Int32} {I : wI} {Q : Int32 → Prop} (hs : wSh k = (0, 3)) (C0 : wCx p m c s args meth cX3_usesOf 2 RX3 (some .int) D cs ad b) : ∀ (t0 : Int32) (H : Heap) (locs : List Loc) (ls : Array Slot), v_X3_usesOf_19 k x1 I Q t0 → wH D cs b G I s H locs → lv_has ls 2 [] → W p l e rm_X3_usesOf s m args below meth c H locs 0 0 (MQ below (va_Qi (fun r I' => I' = I ∧ Q r) (wPo D cs b G) (fun q => b ≤ q)) args s 0 0 (fun q => b ≤ q)) (F0 m 19 ls [.int t0]) := by
  obtain ⟨hX, hr, hlk, hK, hE⟩ := id C0
  have hx := hX.1
  have hb := hX.2.1
  have hown := hX.2.2.2.1
  have hts := hX.2.2.2.2
  intro t0 H locs ls hq hH hl
  unfold v_X3_usesOf_19 at hq
  exact w_eI hX hr hlk hH ⟨rfl, hq⟩ dX3_usesOf_19
set_option maxRecDepth 100000 in
set_option maxHeartbeats 4000000 in
theorem s_X3_usesOf_18 {k : Nat} {x1 : Int32} {I : wI} {Q : Int32 → Prop} (hs : wSh k = (0, 3)) (C0 : wCx p m c s args meth cX3_usesOf 2 RX3 (some .int) D cs ad b) : ∀  (H : Heap) (locs : List Loc) (ls : Array Slot), v_X3_usesOf_18 k x1 I Q  → wH D cs b G I s H locs → lv_has ls 2 [] → W p l e rm_X3_usesOf s m args below meth c H locs 0 0 (MQ below (va_Qi (fun r I' => I' = I ∧ Q r) (wPo D cs b G) (fun q => b ≤ q)) args s 0 0 (fun q => b ≤ q)) (F0 m 18 ls []) := by
  obtain ⟨hX, hr, hlk, hK, hE⟩ := id C0
  have hx := hX.1
  have hb := hX.2.1
  have hown := hX.2.2.2.1
  have hts := hX.2.2.2.2
  intro  H locs ls hq hH hl
  unfold v_X3_usesOf_18 at hq
  refine lv_iconst (v := 0) hx hb dX3_usesOf_18 (by decide) ?_
  exact s_X3_usesOf_19 hs C0  (0 : Int32) _ _ _ hq hH (lv_sub hl [] rfl)
set_option maxRecDepth 100000 in
set_option maxHeartbeats 4000000 in
theorem c_X3_usesOf {l : Launch} {D : va_G} {cs : wC4} {ad : Nat → Nat} {b : Nat} {G : wG} {k : Nat} (hs : wSh k = (0, 3)) (x1 : Int32) (I : wI) (hp : pre_X3_usesOf k x1 I) : Met l yX3_usesOf (ws_ yX3_usesOf cX3_usesOf 2 (some .int)) rm_X3_usesOf (va_Pc [.ref (G.1 k), .int x1] (wPr D cs ad b G I)) (va_Qi (fun r I' => I' = I ∧ post_X3_usesOf k x1 I r) (wPo D cs b G) (fun q => b ≤ q)) 0 0 (fun q => b ≤ q) := by
  have hq := vc_X3_usesOf k x1 I hp
  refine w_met (by decide) (Nat.le_of_ble_eq_true rfl) ?_
  intro p e s m below meth c hX hr hlk hK hE hH ls hl
  have C0 : wCx p m c s _ meth cX3_usesOf 2 RX3 (some .int) D cs ad b := ⟨hX, hr, hlk, hK, hE⟩
  have hX : CallFix p m c cX3_usesOf 2 s _ lw_all RX3 := hX
  have hx := hX.1
  have hb := hX.2.1
  have hown := hX.2.2.2.1
  have hts := hX.2.2.2.2
  have hl : lv_has ls 2 [(0, .ref (G.1 k)), (1, .int x1)] := hl
  unfold v_X3_usesOf at hq
  refine lv_iload_n hx hb dX3_usesOf_0 rfl (lv_at hl 1 rfl) ?_
  refine lv_if_lt (tgt := 18) hx hb dX3_usesOf_1 (by decide) (fun hc => ?_) (fun hc => ?_)
  · have hq := hq.1 hc
    exact s_X3_usesOf_18 hs C0   _ _ _ hq hH (lv_sub hl [] rfl)
  · have hq := hq.2 hc
    refine lv_iload_n hx hb dX3_usesOf_4 rfl (lv_at hl 1 rfl) ?_
    refine lv_iconst (v := 5) hx hb dX3_usesOf_5 (by decide) ?_
    refine lv_icmp_ge (tgt := 18) hx hb dX3_usesOf_6 (by decide) (fun hc => ?_) (fun hc => ?_)
    · have hq := hq.1 hc
      exact s_X3_usesOf_18 hs C0   _ _ _ hq hH (lv_sub hl [] rfl)
    · have hq := hq.2 hc
      refine lv_aload_n hx hb dX3_usesOf_9 rfl (lv_at hl 0 rfl) ?_
      refine w_getr hX hK hH ck3 hs 5 10 (k + 10) fr3_5 rfl q1_70 dX3_usesOf_10 ?_
      refine lv_iload_n hx hb dX3_usesOf_13 rfl (lv_at hl 1 rfl) ?_
      obtain ⟨hc, hq⟩ := hq
      refine w_iald hX hK hH (sf3_5 hs) hc dX3_usesOf_14 ?_
      refine lv_goto (tgt := 19) hx hb dX3_usesOf_15 (by decide) ?_
      exact s_X3_usesOf_19 hs C0  (I (k + 10) (x1).toNatClampNeg) _ _ _ hq hH (lv_sub hl [] rfl)
abbrev rm_X5_key : Room := { frames := 9, cells := 0, slots := 0, locals := 140 }
theorem hd_X5_key : yX5_key.cls = RX5 ∧ yX5_key.cls ≠ "java/lang/invoke/MethodHandle" ∧ yX5_key.cls ≠ "java/lang/invoke/VarHandle" ∧ (parseMethodDescriptor yX5_key.desc).map (fun d => d.parameters.length) = some 2 := by decide +kernel
set_option maxRecDepth 100000 in
set_option maxHeartbeats 4000000 in
theorem s_X5_key_107 {x1 : Int32} {x2 : Int32} {Q : Int32 → wI → Prop} (C0 : wCx p m c s args meth cX5_key 3 RX5 (some .int) D cs ad b) : ∀ (t0 : Int32) (I : wI) (H : Heap) (locs : List Loc) (ls : Array Slot), v_X5_key_107 x1 x2 Q t0 I → wH D cs b G I s H locs → lv_has ls 3 [] → W p l e rm_X5_key s m args below meth c H locs 0 0 (MQ below (va_Qi (Q) (wPo D cs b G) (fun q => b ≤ q)) args s 0 0 (fun q => b ≤ q)) (F0 m 107 ls [.int t0]) := by
  obtain ⟨hX, hr, hlk, hK, hE⟩ := id C0
  have hx := hX.1
  have hb := hX.2.1
  have hown := hX.2.2.2.1
  have hts := hX.2.2.2.2
  intro t0 I H locs ls hq hH hl
  unfold v_X5_key_107 at hq
  exact w_eI hX hr hlk hH hq dX5_key_107
set_option maxRecDepth 100000 in
set_option maxHeartbeats 4000000 in
theorem c_X5_key {l : Launch} {D : va_G} {cs : wC4} {ad : Nat → Nat} {b : Nat} {G : wG} (x1 : Int32) (x2 : Int32) (I : wI) (hp : pre_X5_key x1 x2 I) : Met l yX5_key (ws_ yX5_key cX5_key 3 (some .int)) rm_X5_key (va_Pc [.ref (G.1 0), .int x1, .int x2] (wPr D cs ad b G I)) (va_Qi (fun r I' => post_X5_key x1 x2 I r I') (wPo D cs b G) (fun q => b ≤ q)) 0 0 (fun q => b ≤ q) := by
  have hq := vc_X5_key x1 x2 I hp
  refine w_met (by decide) (Nat.le_of_ble_eq_true rfl) ?_
  intro p e s m below meth c hX hr hlk hK hE hH ls hl
  have C0 : wCx p m c s _ meth cX5_key 3 RX5 (some .int) D cs ad b := ⟨hX, hr, hlk, hK, hE⟩
  have hX : CallFix p m c cX5_key 3 s _ lw_all RX5 := hX
  have hx := hX.1
  have hb := hX.2.1
  have hown := hX.2.2.2.1
  have hts := hX.2.2.2.2
  have hl : lv_has ls 3 [(0, .ref (G.1 0)), (1, .int x1), (2, .int x2)] := hl
  unfold v_X5_key at hq
  refine lv_iload_n hx hb dX5_key_0 rfl (lv_at hl 1 rfl) ?_
  obtain ⟨hp, hq⟩ := hq
  refine w_cVp hH (w_rS (As := [.int x1]) (rest := []) hX hK hE hH (c_X5_requireKey  _ _ hp) q2_141 q2_142 q1_1 q2_143 hd_X5_requireKey.2 ⟨Nat.le_of_ble_eq_true rfl, Nat.le_of_ble_eq_true rfl⟩ ⟨rfl, rfl⟩ rfl hl.1 rfl (Nat.le_of_ble_eq_true rfl) dX5_key_1 ⟨Nat.zero_le _, Nat.zero_le _⟩) (fun   H locs hpo hH => ?_)
  have hq := hq   hpo
  refine lv_iload_n hx hb dX5_key_4 rfl (lv_at hl 2 rfl) ?_
  by_cases hc0 : x2 = (0 : Int32)
  · have hq := hq.1 hc0
    refine lv_tableIn (tgt := 44) hx hb dX5_key_5 (by rw [hc0]; decide) (by rw [hc0]; decide) (by rw [hc0]; rfl) (by decide) ?_
    refine lv_aload_n hx hb dX5_key_44 rfl (lv_at hl 0 rfl) ?_
    refine w_getr hX hK hH ck5 sh0 0 1 1 fr5_0 rfl q1_172 dX5_key_45 ?_
    refine w_getrN hX hK hE hH ck3 (sf5_0 sh0) 1 4 5 fr3_1 rfl qn1_61 dX5_key_48 ?_
    refine lv_iload_n hx hb dX5_key_51 rfl (lv_at hl 1 rfl) ?_
    obtain ⟨hp, hq⟩ := hq
    refine w_cIp hH (w_rV (As := [.int x1]) (rest := []) hX hK hE hH (c_X1_maskOf (sf3_1 (sf5_0 sh0)) _ _ hp) ck1 (sf3_1 (sf5_0 sh0)) q2_145 q2_146 q2_147 q1_4 q2_148 hd_X1_maskOf ⟨Nat.le_of_ble_eq_true rfl, Nat.le_of_ble_eq_true rfl⟩ ⟨rfl, rfl⟩ rfl hl.1 rfl (Nat.le_of_ble_eq_true rfl) dX5_key_52 ⟨Nat.zero_le _, Nat.zero_le _⟩) (fun r1  H locs hpo hH => ?_)
    have hq := hq r1  hpo
    exact w_eI hX hr hlk hH hq dX5_key_55
  by_cases hc1 : x2 = (1 : Int32)
  · have hq := hq.2.1 hc1
    refine lv_tableIn (tgt := 56) hx hb dX5_key_5 (by rw [hc1]; decide) (by rw [hc1]; decide) (by rw [hc1]; rfl) (by decide) ?_
    refine lv_aload_n hx hb dX5_key_56 rfl (lv_at hl 0 rfl) ?_
    refine w_getr hX hK hH ck5 sh0 0 1 1 fr5_0 rfl q1_172 dX5_key_57 ?_
    refine w_getrN hX hK hE hH ck3 (sf5_0 sh0) 1 4 5 fr3_1 rfl qn1_61 dX5_key_60 ?_
    refine lv_iload_n hx hb dX5_key_63 rfl (lv_at hl 1 rfl) ?_
    obtain ⟨hp, hq⟩ := hq
    refine w_cIp hH (w_rV (As := [.int x1]) (rest := []) hX hK hE hH (c_X1_strengthOf (sf3_1 (sf5_0 sh0)) _ _ hp) ck1 (sf3_1 (sf5_0 sh0)) q2_149 q2_150 q2_151 q1_4 q2_152 hd_X1_strengthOf ⟨Nat.le_of_ble_eq_true rfl, Nat.le_of_ble_eq_true rfl⟩ ⟨rfl, rfl⟩ rfl hl.1 rfl (Nat.le_of_ble_eq_true rfl) dX5_key_64 ⟨Nat.zero_le _, Nat.zero_le _⟩) (fun r2  H locs hpo hH => ?_)
    have hq := hq r2  hpo
    exact w_eI hX hr hlk hH hq dX5_key_67
  by_cases hc2 : x2 = (2 : Int32)
  · have hq := hq.2.2.1 hc2
    refine lv_tableIn (tgt := 68) hx hb dX5_key_5 (by rw [hc2]; decide) (by rw [hc2]; decide) (by rw [hc2]; rfl) (by decide) ?_
    refine lv_aload_n hx hb dX5_key_68 rfl (lv_at hl 0 rfl) ?_
    refine lv_iload_n hx hb dX5_key_69 rfl (lv_at hl 1 rfl) ?_
    obtain ⟨hp, hq⟩ := hq
    refine w_cV hH (w_rV (As := [.int x1]) (rest := []) hX hK hE hH (c_X5_showKey  _ _ hp) ck5 sh0 q2_153 q2_155 qs4 q1_1 q2_156 hd_X5_showKey ⟨Nat.le_of_ble_eq_true rfl, Nat.le_of_ble_eq_true rfl⟩ ⟨rfl, rfl⟩ rfl hl.1 rfl (Nat.le_of_ble_eq_true rfl) dX5_key_70 ⟨Nat.zero_le _, Nat.zero_le _⟩) (fun  I3 H locs hpo hH => ?_)
    have hq := hq  I3 hpo
    refine lv_aload_n hx hb dX5_key_73 rfl (lv_at hl 0 rfl) ?_
    obtain ⟨hp, hq⟩ := hq
    refine w_cI hH (w_rV (As := []) (rest := []) hX hK hE hH (c_X5_periodByDoing   _ hp) ck5 sh0 q2_180 q2_182 qs5 q1_1 q2_183 hd_X5_periodByDoing ⟨Nat.le_of_ble_eq_true rfl, Nat.le_of_ble_eq_true rfl⟩ ⟨rfl, rfl⟩ rfl hl.1 rfl (Nat.le_of_ble_eq_true rfl) dX5_key_74 ⟨Nat.zero_le _, Nat.zero_le _⟩) (fun r4 I5 H locs hpo hH => ?_)
    have hq := hq r4 I5 hpo
    exact w_eI hX hr hlk hH hq dX5_key_77
  by_cases hc3 : x2 = (3 : Int32)
  · have hq := hq.2.2.2.1 hc3
    refine lv_tableIn (tgt := 78) hx hb dX5_key_5 (by rw [hc3]; decide) (by rw [hc3]; decide) (by rw [hc3]; rfl) (by decide) ?_
    refine lv_aload_n hx hb dX5_key_78 rfl (lv_at hl 0 rfl) ?_
    refine lv_iload_n hx hb dX5_key_79 rfl (lv_at hl 1 rfl) ?_
    obtain ⟨hp, hq⟩ := hq
    refine w_cV hH (w_rV (As := [.int x1]) (rest := []) hX hK hE hH (c_X5_showKey  _ _ hp) ck5 sh0 q2_153 q2_155 qs4 q1_1 q2_156 hd_X5_showKey ⟨Nat.le_of_ble_eq_true rfl, Nat.le_of_ble_eq_true rfl⟩ ⟨rfl, rfl⟩ rfl hl.1 rfl (Nat.le_of_ble_eq_true rfl) dX5_key_80 ⟨Nat.zero_le _, Nat.zero_le _⟩) (fun  I6 H locs hpo hH => ?_)
    have hq := hq  I6 hpo
    refine lv_aload_n hx hb dX5_key_83 rfl (lv_at hl 0 rfl) ?_
    refine w_getr hX hK hH ck5 sh0 6 30 30 fr5_6 rfl q1_178 dX5_key_84 ?_
    obtain ⟨hp, hq⟩ := hq
    refine w_cIp hH (w_rV (As := []) (rest := []) hX hK hE hH (c_X0_periodByRounds (sf5_6 sh0)  _ hp) ck0 (sf5_6 sh0) q2_194 q2_195 q2_196 q1_3 q2_197 hd_X0_periodByRounds ⟨Nat.le_of_ble_eq_true rfl, Nat.le_of_ble_eq_true rfl⟩ ⟨rfl, rfl⟩ rfl hl.1 rfl (Nat.le_of_ble_eq_true rfl) dX5_key_87 ⟨Nat.zero_le _, Nat.zero_le _⟩) (fun r7  H locs hpo hH => ?_)
    have hq := hq r7  hpo
    exact w_eI hX hr hlk hH hq dX5_key_90
  by_cases hc4 : x2 = (4 : Int32)
  · have hq := hq.2.2.2.2.1 hc4
    refine lv_tableIn (tgt := 91) hx hb dX5_key_5 (by rw [hc4]; decide) (by rw [hc4]; decide) (by rw [hc4]; rfl) (by decide) ?_
    refine lv_aload_n hx hb dX5_key_91 rfl (lv_at hl 0 rfl) ?_
    refine w_getr hX hK hH ck5 sh0 0 1 1 fr5_0 rfl q1_172 dX5_key_92 ?_
    refine lv_iload_n hx hb dX5_key_95 rfl (lv_at hl 1 rfl) ?_
    obtain ⟨hp, hq⟩ := hq
    refine w_cIp hH (w_rV (As := [.int x1]) (rest := []) hX hK hE hH (c_X3_allows (sf5_0 sh0) _ _ hp) ck3 (sf5_0 sh0) q2_205 q2_206 q2_207 q1_2 q2_208 hd_X3_allows ⟨Nat.le_of_ble_eq_true rfl, Nat.le_of_ble_eq_true rfl⟩ ⟨rfl, rfl⟩ rfl hl.1 rfl (Nat.le_of_ble_eq_true rfl) dX5_key_96 ⟨Nat.zero_le _, Nat.zero_le _⟩) (fun r8  H locs hpo hH => ?_)
    have hq := hq r8  hpo
    refine lv_if_eq (tgt := 106) hx hb dX5_key_99 (by decide) (fun hc => ?_) (fun hc => ?_)
    · have hq := hq.1 hc
      refine lv_iconst (v := 1) hx hb dX5_key_106 (by decide) ?_
      exact s_X5_key_107  C0  (1 : Int32) _ _ _ _ hq hH (lv_sub hl [] rfl)
    · have hq := hq.2 hc
      refine lv_iconst (v := 0) hx hb dX5_key_102 (by decide) ?_
      refine lv_goto (tgt := 107) hx hb dX5_key_103 (by decide) ?_
      exact s_X5_key_107  C0  (0 : Int32) _ _ _ _ hq hH (lv_sub hl [] rfl)
  by_cases hc5 : x2 = (5 : Int32)
  · have hq := hq.2.2.2.2.2.1 hc5
    refine lv_tableIn (tgt := 108) hx hb dX5_key_5 (by rw [hc5]; decide) (by rw [hc5]; decide) (by rw [hc5]; rfl) (by decide) ?_
    refine lv_aload_n hx hb dX5_key_108 rfl (lv_at hl 0 rfl) ?_
    refine w_getr hX hK hH ck5 sh0 0 1 1 fr5_0 rfl q1_172 dX5_key_109 ?_
    refine lv_iload_n hx hb dX5_key_112 rfl (lv_at hl 1 rfl) ?_
    obtain ⟨hp, hq⟩ := hq
    refine w_cIp hH (w_rV (As := [.int x1]) (rest := []) hX hK hE hH (c_X3_usesOf (sf5_0 sh0) _ _ hp) ck3 (sf5_0 sh0) q2_211 q2_212 q2_213 q1_2 q2_214 hd_X3_usesOf ⟨Nat.le_of_ble_eq_true rfl, Nat.le_of_ble_eq_true rfl⟩ ⟨rfl, rfl⟩ rfl hl.1 rfl (Nat.le_of_ble_eq_true rfl) dX5_key_113 ⟨Nat.zero_le _, Nat.zero_le _⟩) (fun r9  H locs hpo hH => ?_)
    have hq := hq r9  hpo
    exact w_eI hX hr hlk hH hq dX5_key_116
  have hq := hq.2.2.2.2.2.2 ⟨hc0, hc1, hc2, hc3, hc4, hc5⟩
  have he0 := w_toInt_ne hc0
  have he1 := w_toInt_ne hc1
  have he2 := w_toInt_ne hc2
  have he3 := w_toInt_ne hc3
  have he4 := w_toInt_ne hc4
  have he5 := w_toInt_ne hc5
  refine lv_tableOut (tgt := 117) hx hb dX5_key_5 (w_swOut0_5 hc0 hc1 hc2 hc3 hc4 hc5) (by decide) ?_
  exact hq.elim
abbrev rm_X5_keyx : Room := { frames := 9, cells := 1, slots := 6, locals := 140 }

set_option maxRecDepth 100000 in
set_option maxHeartbeats 4000000 in
theorem s_X5_keyx_107 {x1 : Int32} {x2 : Int32} {X : String → wI → Prop} (hst : l.stackTraces = false) (hEx : ∀ x ∈ c.exceptionTable.toList, False) (C0 : wCx p m c s args meth cX5_key 3 RX5 (some .int) D cs ad b) : ∀ (t0 : Int32) (I : wI) (H : Heap) (locs : List Loc) (ls : Array Slot), v_X5_keyx_107 x1 x2 X t0 I → wH D cs b G I s H locs → lv_has ls 3 [] → W p l e rm_X5_keyx s m args below meth c H locs 0 0 (vx_MQ below (va_Qi (fun (_ : Int32) (_ : wI) => False) (wPo D cs b G) (fun q => b ≤ q)) (wXC D cs b G X) args s 1 6 (fun q => b ≤ q)) (F0 m 107 ls [.int t0]) := by
  obtain ⟨hX, hr, hlk, hK, hE⟩ := id C0
  have hx := hX.1
  have hb := hX.2.1
  have hown := hX.2.2.2.1
  have hts := hX.2.2.2.2
  intro t0 I H locs ls hq hH hl
  unfold v_X5_keyx_107 at hq
  exact hq.elim
set_option maxRecDepth 100000 in
set_option maxHeartbeats 4000000 in
theorem c_X5_keyx {l : Launch} {D : va_G} {cs : wC4} {ad : Nat → Nat} {b : Nat} {G : wG} (hst : l.stackTraces = false) (x1 : Int32) (x2 : Int32) (I : wI) (hp : pre_X5_keyx x1 x2 I) : vx_Met l yX5_key (ws_ yX5_key cX5_key 3 (some .int)) rm_X5_keyx (va_Pc [.ref (G.1 0), .int x1, .int x2] (wPr D cs ad b G I)) (va_Qi (fun (_ : Int32) (_ : wI) => False) (wPo D cs b G) (fun q => b ≤ q)) (wXC D cs b G (exc_X5_key x1 x2 I)) 1 6 (fun q => b ≤ q) := by
  have hq := vc_X5_keyx x1 x2 I hp
  refine w_metx (by decide) (Nat.le_of_ble_eq_true rfl) ?_
  intro p e s m below meth c hX hr hlk hEx hK hE hH ls hl
  have C0 : wCx p m c s _ meth cX5_key 3 RX5 (some .int) D cs ad b := ⟨hX, hr, hlk, hK, hE⟩
  have hX : CallFix p m c cX5_key 3 s _ lw_all RX5 := hX
  have hx := hX.1
  have hb := hX.2.1
  have hown := hX.2.2.2.1
  have hts := hX.2.2.2.2
  have hl : lv_has ls 3 [(0, .ref (G.1 0)), (1, .int x1), (2, .int x2)] := hl
  unfold v_X5_keyx at hq
  refine lv_iload_n hx hb dX5_key_0 rfl (lv_at hl 1 rfl) ?_
  by_cases hok : ok_X5_requireKey x1 I
  · have hq := hq.1 hok
    obtain ⟨hp, hq⟩ := hq
    refine w_cVp hH (w_rS (As := [.int x1]) (rest := []) hX hK hE hH (c_X5_requireKey  _ _ hp) q2_141 q2_142 q1_1 q2_143 hd_X5_requireKey.2 ⟨Nat.le_of_ble_eq_true rfl, Nat.le_of_ble_eq_true rfl⟩ ⟨rfl, rfl⟩ rfl hl.1 rfl (Nat.le_of_ble_eq_true rfl) dX5_key_1 ⟨Nat.zero_le _, Nat.zero_le _⟩) (fun   H locs hpo hH => ?_)
    have hq := hq   hpo
    refine lv_iload_n hx hb dX5_key_4 rfl (lv_at hl 2 rfl) ?_
    by_cases hc0 : x2 = (0 : Int32)
    · have hq := hq.1 hc0
      refine lv_tableIn (tgt := 44) hx hb dX5_key_5 (by rw [hc0]; decide) (by rw [hc0]; decide) (by rw [hc0]; rfl) (by decide) ?_
      refine lv_aload_n hx hb dX5_key_44 rfl (lv_at hl 0 rfl) ?_
      refine w_getr hX hK hH ck5 sh0 0 1 1 fr5_0 rfl q1_172 dX5_key_45 ?_
      refine w_getrN hX hK hE hH ck3 (sf5_0 sh0) 1 4 5 fr3_1 rfl qn1_61 dX5_key_48 ?_
      refine lv_iload_n hx hb dX5_key_51 rfl (lv_at hl 1 rfl) ?_
      obtain ⟨hp, hq⟩ := hq
      refine w_cIp hH (w_rV (As := [.int x1]) (rest := []) hX hK hE hH (c_X1_maskOf (sf3_1 (sf5_0 sh0)) _ _ hp) ck1 (sf3_1 (sf5_0 sh0)) q2_145 q2_146 q2_147 q1_4 q2_148 hd_X1_maskOf ⟨Nat.le_of_ble_eq_true rfl, Nat.le_of_ble_eq_true rfl⟩ ⟨rfl, rfl⟩ rfl hl.1 rfl (Nat.le_of_ble_eq_true rfl) dX5_key_52 ⟨Nat.zero_le _, Nat.zero_le _⟩) (fun r1  H locs hpo hH => ?_)
      have hq := hq r1  hpo
      exact hq.elim
    by_cases hc1 : x2 = (1 : Int32)
    · have hq := hq.2.1 hc1
      refine lv_tableIn (tgt := 56) hx hb dX5_key_5 (by rw [hc1]; decide) (by rw [hc1]; decide) (by rw [hc1]; rfl) (by decide) ?_
      refine lv_aload_n hx hb dX5_key_56 rfl (lv_at hl 0 rfl) ?_
      refine w_getr hX hK hH ck5 sh0 0 1 1 fr5_0 rfl q1_172 dX5_key_57 ?_
      refine w_getrN hX hK hE hH ck3 (sf5_0 sh0) 1 4 5 fr3_1 rfl qn1_61 dX5_key_60 ?_
      refine lv_iload_n hx hb dX5_key_63 rfl (lv_at hl 1 rfl) ?_
      obtain ⟨hp, hq⟩ := hq
      refine w_cIp hH (w_rV (As := [.int x1]) (rest := []) hX hK hE hH (c_X1_strengthOf (sf3_1 (sf5_0 sh0)) _ _ hp) ck1 (sf3_1 (sf5_0 sh0)) q2_149 q2_150 q2_151 q1_4 q2_152 hd_X1_strengthOf ⟨Nat.le_of_ble_eq_true rfl, Nat.le_of_ble_eq_true rfl⟩ ⟨rfl, rfl⟩ rfl hl.1 rfl (Nat.le_of_ble_eq_true rfl) dX5_key_64 ⟨Nat.zero_le _, Nat.zero_le _⟩) (fun r2  H locs hpo hH => ?_)
      have hq := hq r2  hpo
      exact hq.elim
    by_cases hc2 : x2 = (2 : Int32)
    · have hq := hq.2.2.1 hc2
      refine lv_tableIn (tgt := 68) hx hb dX5_key_5 (by rw [hc2]; decide) (by rw [hc2]; decide) (by rw [hc2]; rfl) (by decide) ?_
      refine lv_aload_n hx hb dX5_key_68 rfl (lv_at hl 0 rfl) ?_
      refine lv_iload_n hx hb dX5_key_69 rfl (lv_at hl 1 rfl) ?_
      obtain ⟨hp, hq⟩ := hq
      refine w_cV hH (w_rV (As := [.int x1]) (rest := []) hX hK hE hH (c_X5_showKey  _ _ hp) ck5 sh0 q2_153 q2_155 qs4 q1_1 q2_156 hd_X5_showKey ⟨Nat.le_of_ble_eq_true rfl, Nat.le_of_ble_eq_true rfl⟩ ⟨rfl, rfl⟩ rfl hl.1 rfl (Nat.le_of_ble_eq_true rfl) dX5_key_70 ⟨Nat.zero_le _, Nat.zero_le _⟩) (fun  I3 H locs hpo hH => ?_)
      have hq := hq  I3 hpo
      refine lv_aload_n hx hb dX5_key_73 rfl (lv_at hl 0 rfl) ?_
      obtain ⟨hp, hq⟩ := hq
      refine w_cI hH (w_rV (As := []) (rest := []) hX hK hE hH (c_X5_periodByDoing   _ hp) ck5 sh0 q2_180 q2_182 qs5 q1_1 q2_183 hd_X5_periodByDoing ⟨Nat.le_of_ble_eq_true rfl, Nat.le_of_ble_eq_true rfl⟩ ⟨rfl, rfl⟩ rfl hl.1 rfl (Nat.le_of_ble_eq_true rfl) dX5_key_74 ⟨Nat.zero_le _, Nat.zero_le _⟩) (fun r4 I5 H locs hpo hH => ?_)
      have hq := hq r4 I5 hpo
      exact hq.elim
    by_cases hc3 : x2 = (3 : Int32)
    · have hq := hq.2.2.2.1 hc3
      refine lv_tableIn (tgt := 78) hx hb dX5_key_5 (by rw [hc3]; decide) (by rw [hc3]; decide) (by rw [hc3]; rfl) (by decide) ?_
      refine lv_aload_n hx hb dX5_key_78 rfl (lv_at hl 0 rfl) ?_
      refine lv_iload_n hx hb dX5_key_79 rfl (lv_at hl 1 rfl) ?_
      obtain ⟨hp, hq⟩ := hq
      refine w_cV hH (w_rV (As := [.int x1]) (rest := []) hX hK hE hH (c_X5_showKey  _ _ hp) ck5 sh0 q2_153 q2_155 qs4 q1_1 q2_156 hd_X5_showKey ⟨Nat.le_of_ble_eq_true rfl, Nat.le_of_ble_eq_true rfl⟩ ⟨rfl, rfl⟩ rfl hl.1 rfl (Nat.le_of_ble_eq_true rfl) dX5_key_80 ⟨Nat.zero_le _, Nat.zero_le _⟩) (fun  I6 H locs hpo hH => ?_)
      have hq := hq  I6 hpo
      refine lv_aload_n hx hb dX5_key_83 rfl (lv_at hl 0 rfl) ?_
      refine w_getr hX hK hH ck5 sh0 6 30 30 fr5_6 rfl q1_178 dX5_key_84 ?_
      obtain ⟨hp, hq⟩ := hq
      refine w_cIp hH (w_rV (As := []) (rest := []) hX hK hE hH (c_X0_periodByRounds (sf5_6 sh0)  _ hp) ck0 (sf5_6 sh0) q2_194 q2_195 q2_196 q1_3 q2_197 hd_X0_periodByRounds ⟨Nat.le_of_ble_eq_true rfl, Nat.le_of_ble_eq_true rfl⟩ ⟨rfl, rfl⟩ rfl hl.1 rfl (Nat.le_of_ble_eq_true rfl) dX5_key_87 ⟨Nat.zero_le _, Nat.zero_le _⟩) (fun r7  H locs hpo hH => ?_)
      have hq := hq r7  hpo
      exact hq.elim
    by_cases hc4 : x2 = (4 : Int32)
    · have hq := hq.2.2.2.2.1 hc4
      refine lv_tableIn (tgt := 91) hx hb dX5_key_5 (by rw [hc4]; decide) (by rw [hc4]; decide) (by rw [hc4]; rfl) (by decide) ?_
      refine lv_aload_n hx hb dX5_key_91 rfl (lv_at hl 0 rfl) ?_
      refine w_getr hX hK hH ck5 sh0 0 1 1 fr5_0 rfl q1_172 dX5_key_92 ?_
      refine lv_iload_n hx hb dX5_key_95 rfl (lv_at hl 1 rfl) ?_
      obtain ⟨hp, hq⟩ := hq
      refine w_cIp hH (w_rV (As := [.int x1]) (rest := []) hX hK hE hH (c_X3_allows (sf5_0 sh0) _ _ hp) ck3 (sf5_0 sh0) q2_205 q2_206 q2_207 q1_2 q2_208 hd_X3_allows ⟨Nat.le_of_ble_eq_true rfl, Nat.le_of_ble_eq_true rfl⟩ ⟨rfl, rfl⟩ rfl hl.1 rfl (Nat.le_of_ble_eq_true rfl) dX5_key_96 ⟨Nat.zero_le _, Nat.zero_le _⟩) (fun r8  H locs hpo hH => ?_)
      have hq := hq r8  hpo
      refine lv_if_eq (tgt := 106) hx hb dX5_key_99 (by decide) (fun hc => ?_) (fun hc => ?_)
      · have hq := hq.1 hc
        refine lv_iconst (v := 1) hx hb dX5_key_106 (by decide) ?_
        exact s_X5_keyx_107 hst hEx C0  (1 : Int32) _ _ _ _ hq hH (lv_sub hl [] rfl)
      · have hq := hq.2 hc
        refine lv_iconst (v := 0) hx hb dX5_key_102 (by decide) ?_
        refine lv_goto (tgt := 107) hx hb dX5_key_103 (by decide) ?_
        exact s_X5_keyx_107 hst hEx C0  (0 : Int32) _ _ _ _ hq hH (lv_sub hl [] rfl)
    by_cases hc5 : x2 = (5 : Int32)
    · have hq := hq.2.2.2.2.2.1 hc5
      refine lv_tableIn (tgt := 108) hx hb dX5_key_5 (by rw [hc5]; decide) (by rw [hc5]; decide) (by rw [hc5]; rfl) (by decide) ?_
      refine lv_aload_n hx hb dX5_key_108 rfl (lv_at hl 0 rfl) ?_
      refine w_getr hX hK hH ck5 sh0 0 1 1 fr5_0 rfl q1_172 dX5_key_109 ?_
      refine lv_iload_n hx hb dX5_key_112 rfl (lv_at hl 1 rfl) ?_
      obtain ⟨hp, hq⟩ := hq
      refine w_cIp hH (w_rV (As := [.int x1]) (rest := []) hX hK hE hH (c_X3_usesOf (sf5_0 sh0) _ _ hp) ck3 (sf5_0 sh0) q2_211 q2_212 q2_213 q1_2 q2_214 hd_X3_usesOf ⟨Nat.le_of_ble_eq_true rfl, Nat.le_of_ble_eq_true rfl⟩ ⟨rfl, rfl⟩ rfl hl.1 rfl (Nat.le_of_ble_eq_true rfl) dX5_key_113 ⟨Nat.zero_le _, Nat.zero_le _⟩) (fun r9  H locs hpo hH => ?_)
      have hq := hq r9  hpo
      exact hq.elim
    have hq := hq.2.2.2.2.2.2 ⟨hc0, hc1, hc2, hc3, hc4, hc5⟩
    have he0 := w_toInt_ne hc0
    have he1 := w_toInt_ne hc1
    have he2 := w_toInt_ne hc2
    have he3 := w_toInt_ne hc3
    have he4 := w_toInt_ne hc4
    have he5 := w_toInt_ne hc5
    refine lv_tableOut (tgt := 117) hx hb dX5_key_5 (w_swOut0_5 hc0 hc1 hc2 hc3 hc4 hc5) (by decide) ?_
    exact w_throw th_X5_66_207_70 hX hst hlk hEx hE hH hl.1 dX5_key_117 dX5_key_120 dX5_key_121 dX5_key_123 dX5_key_126 ⟨Nat.le_of_ble_eq_true rfl, Nat.le_of_ble_eq_true rfl, Nat.le_of_ble_eq_true rfl, Nat.le_of_ble_eq_true rfl⟩ hq
  · have hq := hq.2 hok
    obtain ⟨hp, hq⟩ := hq
    exact w_xV hEx hlk hH (w_xrS (As := [.int x1]) (rest := []) hX hK hE hH (c_X5_requireKeyx hst  _ _ hp) q2_141 q2_142 q1_1 q2_143 hd_X5_requireKey.2 ⟨Nat.le_of_ble_eq_true rfl, Nat.le_of_ble_eq_true rfl⟩ ⟨rfl, rfl⟩ rfl hl.1 rfl (Nat.le_of_ble_eq_true rfl) dX5_key_1 ⟨Nat.le_of_ble_eq_true rfl, Nat.le_of_ble_eq_true rfl⟩) (fun E u h => by obtain ⟨h1, h2⟩ := h; subst h1; exact hq E h2)
abbrev rm_X5_showPair : Room := { frames := 2, cells := 0, slots := 0, locals := 54 }
theorem hd_X5_showPair : yX5_showPair.cls = RX5 ∧ yX5_showPair.cls ≠ "java/lang/invoke/MethodHandle" ∧ yX5_showPair.cls ≠ "java/lang/invoke/VarHandle" ∧ (parseMethodDescriptor yX5_showPair.desc).map (fun d => d.parameters.length) = some 2 := by decide +kernel
set_option maxRecDepth 100000 in
set_option maxHeartbeats 4000000 in
theorem c_X5_showPair {l : Launch} {D : va_G} {cs : wC4} {ad : Nat → Nat} {b : Nat} {G : wG} (x1 : Int32) (x2 : Int32) (I : wI) (hp : pre_X5_showPair x1 x2 I) : Met l yX5_showPair (ws_ yX5_showPair cX5_showPair 3 none) rm_X5_showPair (va_Pc [.ref (G.1 0), .int x1, .int x2] (wPr D cs ad b G I)) (va_Qv (fun I' => post_X5_showPair x1 x2 I I') (wPo D cs b G) (fun q => b ≤ q)) 0 0 (fun q => b ≤ q) := by
  have hq := vc_X5_showPair x1 x2 I hp
  refine w_met (by decide) (Nat.le_of_ble_eq_true rfl) ?_
  intro p e s m below meth c hX hr hlk hK hE hH ls hl
  have C0 : wCx p m c s _ meth cX5_showPair 3 RX5 none D cs ad b := ⟨hX, hr, hlk, hK, hE⟩
  have hX : CallFix p m c cX5_showPair 3 s _ lw_all RX5 := hX
  have hx := hX.1
  have hb := hX.2.1
  have hown := hX.2.2.2.1
  have hts := hX.2.2.2.2
  have hl : lv_has ls 3 [(0, .ref (G.1 0)), (1, .int x1), (2, .int x2)] := hl
  unfold v_X5_showPair at hq
  refine lv_aload_n hx hb dX5_showPair_0 rfl (lv_at hl 0 rfl) ?_
  refine w_getr hX hK hH ck5 sh0 6 30 30 fr5_6 rfl q1_178 dX5_showPair_1 ?_
  obtain ⟨hp, hq⟩ := hq
  refine w_cV hH (w_rV (As := []) (rest := []) hX hK hE hH (c_X0_bringHome (sf5_6 sh0)  _ hp) ck0 (sf5_6 sh0) q2_157 q2_158 q2_159 q1_3 q2_160 hd_X0_bringHome ⟨Nat.le_of_ble_eq_true rfl, Nat.le_of_ble_eq_true rfl⟩ ⟨rfl, rfl⟩ rfl hl.1 rfl (Nat.le_of_ble_eq_true rfl) dX5_showPair_4 ⟨Nat.zero_le _, Nat.zero_le _⟩) (fun  I1 H locs hpo hH => ?_)
  have hq := hq  I1 hpo
  refine lv_aload_n hx hb dX5_showPair_7 rfl (lv_at hl 0 rfl) ?_
  refine w_getr hX hK hH ck5 sh0 0 1 1 fr5_0 rfl q1_172 dX5_showPair_8 ?_
  refine w_getrN hX hK hE hH ck3 (sf5_0 sh0) 1 4 5 fr3_1 rfl qn1_61 dX5_showPair_11 ?_
  refine lv_aload_n hx hb dX5_showPair_14 rfl (lv_at hl 0 rfl) ?_
  refine w_getr hX hK hH ck5 sh0 6 30 30 fr5_6 rfl q1_178 dX5_showPair_15 ?_
  refine lv_iload_n hx hb dX5_showPair_18 rfl (lv_at hl 1 rfl) ?_
  refine lv_iconst (v := 0) hx hb dX5_showPair_19 (by decide) ?_
  obtain ⟨hp, hq⟩ := hq
  refine w_cIp hH (w_rS (As := [.int x1, .int (0 : Int32)]) (rest := [.ref (G.1 30), .ref (G.1 5)]) hX hK hE hH (c_X5_moveOf  _ _ _ hp) q2_161 q2_162 q1_1 q2_163 hd_X5_moveOf.2 ⟨Nat.le_of_ble_eq_true rfl, Nat.le_of_ble_eq_true rfl⟩ ⟨rfl, rfl⟩ rfl hl.1 rfl (Nat.le_of_ble_eq_true rfl) dX5_showPair_20 ⟨Nat.zero_le _, Nat.zero_le _⟩) (fun r2  H locs hpo hH => ?_)
  have hq := hq r2  hpo
  obtain ⟨hp, hq⟩ := hq
  refine w_cV hH (w_rV (As := [.ref (G.1 30), .int r2]) (rest := []) hX hK hE hH (c_X1_move (sf3_1 (sf5_0 sh0)) (sf5_6 sh0) _ _ hp) ck1 (sf3_1 (sf5_0 sh0)) q2_164 q2_165 q2_166 q1_4 q2_167 hd_X1_move ⟨Nat.le_of_ble_eq_true rfl, Nat.le_of_ble_eq_true rfl⟩ ⟨rfl, rfl⟩ rfl hl.1 rfl (Nat.le_of_ble_eq_true rfl) dX5_showPair_23 ⟨Nat.zero_le _, Nat.zero_le _⟩) (fun  I3 H locs hpo hH => ?_)
  have hq := hq  I3 hpo
  refine lv_aload_n hx hb dX5_showPair_26 rfl (lv_at hl 0 rfl) ?_
  refine w_getr hX hK hH ck5 sh0 0 1 1 fr5_0 rfl q1_172 dX5_showPair_27 ?_
  refine w_getrN hX hK hE hH ck3 (sf5_0 sh0) 1 4 5 fr3_1 rfl qn1_61 dX5_showPair_30 ?_
  refine lv_aload_n hx hb dX5_showPair_33 rfl (lv_at hl 0 rfl) ?_
  refine w_getr hX hK hH ck5 sh0 6 30 30 fr5_6 rfl q1_178 dX5_showPair_34 ?_
  refine lv_iload_n hx hb dX5_showPair_37 rfl (lv_at hl 2 rfl) ?_
  refine lv_iconst (v := 0) hx hb dX5_showPair_38 (by decide) ?_
  obtain ⟨hp, hq⟩ := hq
  refine w_cIp hH (w_rS (As := [.int x2, .int (0 : Int32)]) (rest := [.ref (G.1 30), .ref (G.1 5)]) hX hK hE hH (c_X5_moveOf  _ _ _ hp) q2_161 q2_162 q1_1 q2_163 hd_X5_moveOf.2 ⟨Nat.le_of_ble_eq_true rfl, Nat.le_of_ble_eq_true rfl⟩ ⟨rfl, rfl⟩ rfl hl.1 rfl (Nat.le_of_ble_eq_true rfl) dX5_showPair_39 ⟨Nat.zero_le _, Nat.zero_le _⟩) (fun r4  H locs hpo hH => ?_)
  have hq := hq r4  hpo
  obtain ⟨hp, hq⟩ := hq
  refine w_cV hH (w_rV (As := [.ref (G.1 30), .int r4]) (rest := []) hX hK hE hH (c_X1_move (sf3_1 (sf5_0 sh0)) (sf5_6 sh0) _ _ hp) ck1 (sf3_1 (sf5_0 sh0)) q2_164 q2_165 q2_166 q1_4 q2_167 hd_X1_move ⟨Nat.le_of_ble_eq_true rfl, Nat.le_of_ble_eq_true rfl⟩ ⟨rfl, rfl⟩ rfl hl.1 rfl (Nat.le_of_ble_eq_true rfl) dX5_showPair_42 ⟨Nat.zero_le _, Nat.zero_le _⟩) (fun  I5 H locs hpo hH => ?_)
  have hq := hq  I5 hpo
  refine lv_aload_n hx hb dX5_showPair_45 rfl (lv_at hl 0 rfl) ?_
  refine w_getr hX hK hH ck5 sh0 0 1 1 fr5_0 rfl q1_172 dX5_showPair_46 ?_
  refine w_getrN hX hK hE hH ck3 (sf5_0 sh0) 1 4 5 fr3_1 rfl qn1_61 dX5_showPair_49 ?_
  refine lv_aload_n hx hb dX5_showPair_52 rfl (lv_at hl 0 rfl) ?_
  refine w_getr hX hK hH ck5 sh0 6 30 30 fr5_6 rfl q1_178 dX5_showPair_53 ?_
  refine lv_iload_n hx hb dX5_showPair_56 rfl (lv_at hl 1 rfl) ?_
  refine lv_iconst (v := 1) hx hb dX5_showPair_57 (by decide) ?_
  obtain ⟨hp, hq⟩ := hq
  refine w_cIp hH (w_rS (As := [.int x1, .int (1 : Int32)]) (rest := [.ref (G.1 30), .ref (G.1 5)]) hX hK hE hH (c_X5_moveOf  _ _ _ hp) q2_161 q2_162 q1_1 q2_163 hd_X5_moveOf.2 ⟨Nat.le_of_ble_eq_true rfl, Nat.le_of_ble_eq_true rfl⟩ ⟨rfl, rfl⟩ rfl hl.1 rfl (Nat.le_of_ble_eq_true rfl) dX5_showPair_58 ⟨Nat.zero_le _, Nat.zero_le _⟩) (fun r6  H locs hpo hH => ?_)
  have hq := hq r6  hpo
  obtain ⟨hp, hq⟩ := hq
  refine w_cV hH (w_rV (As := [.ref (G.1 30), .int r6]) (rest := []) hX hK hE hH (c_X1_move (sf3_1 (sf5_0 sh0)) (sf5_6 sh0) _ _ hp) ck1 (sf3_1 (sf5_0 sh0)) q2_164 q2_165 q2_166 q1_4 q2_167 hd_X1_move ⟨Nat.le_of_ble_eq_true rfl, Nat.le_of_ble_eq_true rfl⟩ ⟨rfl, rfl⟩ rfl hl.1 rfl (Nat.le_of_ble_eq_true rfl) dX5_showPair_61 ⟨Nat.zero_le _, Nat.zero_le _⟩) (fun  I7 H locs hpo hH => ?_)
  have hq := hq  I7 hpo
  refine lv_aload_n hx hb dX5_showPair_64 rfl (lv_at hl 0 rfl) ?_
  refine w_getr hX hK hH ck5 sh0 0 1 1 fr5_0 rfl q1_172 dX5_showPair_65 ?_
  refine w_getrN hX hK hE hH ck3 (sf5_0 sh0) 1 4 5 fr3_1 rfl qn1_61 dX5_showPair_68 ?_
  refine lv_aload_n hx hb dX5_showPair_71 rfl (lv_at hl 0 rfl) ?_
  refine w_getr hX hK hH ck5 sh0 6 30 30 fr5_6 rfl q1_178 dX5_showPair_72 ?_
  refine lv_iload_n hx hb dX5_showPair_75 rfl (lv_at hl 2 rfl) ?_
  refine lv_iconst (v := 1) hx hb dX5_showPair_76 (by decide) ?_
  obtain ⟨hp, hq⟩ := hq
  refine w_cIp hH (w_rS (As := [.int x2, .int (1 : Int32)]) (rest := [.ref (G.1 30), .ref (G.1 5)]) hX hK hE hH (c_X5_moveOf  _ _ _ hp) q2_161 q2_162 q1_1 q2_163 hd_X5_moveOf.2 ⟨Nat.le_of_ble_eq_true rfl, Nat.le_of_ble_eq_true rfl⟩ ⟨rfl, rfl⟩ rfl hl.1 rfl (Nat.le_of_ble_eq_true rfl) dX5_showPair_77 ⟨Nat.zero_le _, Nat.zero_le _⟩) (fun r8  H locs hpo hH => ?_)
  have hq := hq r8  hpo
  obtain ⟨hp, hq⟩ := hq
  refine w_cV hH (w_rV (As := [.ref (G.1 30), .int r8]) (rest := []) hX hK hE hH (c_X1_move (sf3_1 (sf5_0 sh0)) (sf5_6 sh0) _ _ hp) ck1 (sf3_1 (sf5_0 sh0)) q2_164 q2_165 q2_166 q1_4 q2_167 hd_X1_move ⟨Nat.le_of_ble_eq_true rfl, Nat.le_of_ble_eq_true rfl⟩ ⟨rfl, rfl⟩ rfl hl.1 rfl (Nat.le_of_ble_eq_true rfl) dX5_showPair_80 ⟨Nat.zero_le _, Nat.zero_le _⟩) (fun  I9 H locs hpo hH => ?_)
  have hq := hq  I9 hpo
  exact w_eV hX hr hlk hH hq dX5_showPair_83
abbrev rm_X5_pair : Room := { frames := 9, cells := 0, slots := 0, locals := 140 }
theorem hd_X5_pair : yX5_pair.cls = RX5 ∧ yX5_pair.cls ≠ "java/lang/invoke/MethodHandle" ∧ yX5_pair.cls ≠ "java/lang/invoke/VarHandle" ∧ (parseMethodDescriptor yX5_pair.desc).map (fun d => d.parameters.length) = some 3 := by decide +kernel
set_option maxRecDepth 100000 in
set_option maxHeartbeats 4000000 in
theorem s_X5_pair_111 {x1 : Int32} {x2 : Int32} {x3 : Int32} {Q : Int32 → wI → Prop} (C0 : wCx p m c s args meth cX5_pair 4 RX5 (some .int) D cs ad b) : ∀ (t0 : Int32) (I : wI) (H : Heap) (locs : List Loc) (ls : Array Slot), v_X5_pair_111 x1 x2 x3 Q t0 I → wH D cs b G I s H locs → lv_has ls 4 [] → W p l e rm_X5_pair s m args below meth c H locs 0 0 (MQ below (va_Qi (Q) (wPo D cs b G) (fun q => b ≤ q)) args s 0 0 (fun q => b ≤ q)) (F0 m 111 ls [.int t0]) := by
  obtain ⟨hX, hr, hlk, hK, hE⟩ := id C0
  have hx := hX.1
  have hb := hX.2.1
  have hown := hX.2.2.2.1
  have hts := hX.2.2.2.2
  intro t0 I H locs ls hq hH hl
  unfold v_X5_pair_111 at hq
  exact w_eI hX hr hlk hH hq dX5_pair_111
set_option maxRecDepth 100000 in
set_option maxHeartbeats 4000000 in
theorem s_X5_pair_17 {x1 : Int32} {x2 : Int32} {x3 : Int32} {Q : Int32 → wI → Prop} (C0 : wCx p m c s args meth cX5_pair 4 RX5 (some .int) D cs ad b) : ∀  (I : wI) (H : Heap) (locs : List Loc) (ls : Array Slot), v_X5_pair_17 x1 x2 x3 Q  I → wH D cs b G I s H locs → lv_has ls 4 [] → W p l e rm_X5_pair s m args below meth c H locs 0 0 (MQ below (va_Qi (Q) (wPo D cs b G) (fun q => b ≤ q)) args s 0 0 (fun q => b ≤ q)) (F0 m 17 ls []) := by
  obtain ⟨hX, hr, hlk, hK, hE⟩ := id C0
  have hx := hX.1
  have hb := hX.2.1
  have hown := hX.2.2.2.1
  have hts := hX.2.2.2.2
  intro  I H locs ls hq hH hl
  unfold v_X5_pair_17 at hq
  exact hq.elim
set_option maxRecDepth 100000 in
set_option maxHeartbeats 4000000 in
theorem c_X5_pair {l : Launch} {D : va_G} {cs : wC4} {ad : Nat → Nat} {b : Nat} {G : wG} (x1 : Int32) (x2 : Int32) (x3 : Int32) (I : wI) (hp : pre_X5_pair x1 x2 x3 I) : Met l yX5_pair (ws_ yX5_pair cX5_pair 4 (some .int)) rm_X5_pair (va_Pc [.ref (G.1 0), .int x1, .int x2, .int x3] (wPr D cs ad b G I)) (va_Qi (fun r I' => post_X5_pair x1 x2 x3 I r I') (wPo D cs b G) (fun q => b ≤ q)) 0 0 (fun q => b ≤ q) := by
  have hq := vc_X5_pair x1 x2 x3 I hp
  refine w_met (by decide) (Nat.le_of_ble_eq_true rfl) ?_
  intro p e s m below meth c hX hr hlk hK hE hH ls hl
  have C0 : wCx p m c s _ meth cX5_pair 4 RX5 (some .int) D cs ad b := ⟨hX, hr, hlk, hK, hE⟩
  have hX : CallFix p m c cX5_pair 4 s _ lw_all RX5 := hX
  have hx := hX.1
  have hb := hX.2.1
  have hown := hX.2.2.2.1
  have hts := hX.2.2.2.2
  have hl : lv_has ls 4 [(0, .ref (G.1 0)), (1, .int x1), (2, .int x2), (3, .int x3)] := hl
  unfold v_X5_pair at hq
  refine lv_iload_n hx hb dX5_pair_0 rfl (lv_at hl 1 rfl) ?_
  obtain ⟨hp, hq⟩ := hq
  refine w_cVp hH (w_rS (As := [.int x1]) (rest := []) hX hK hE hH (c_X5_requireKey  _ _ hp) q2_141 q2_142 q1_1 q2_143 hd_X5_requireKey.2 ⟨Nat.le_of_ble_eq_true rfl, Nat.le_of_ble_eq_true rfl⟩ ⟨rfl, rfl⟩ rfl hl.1 rfl (Nat.le_of_ble_eq_true rfl) dX5_pair_1 ⟨Nat.zero_le _, Nat.zero_le _⟩) (fun   H locs hpo hH => ?_)
  have hq := hq   hpo
  refine lv_iload_n hx hb dX5_pair_4 rfl (lv_at hl 2 rfl) ?_
  obtain ⟨hp, hq⟩ := hq
  refine w_cVp hH (w_rS (As := [.int x2]) (rest := []) hX hK hE hH (c_X5_requireKey  _ _ hp) q2_141 q2_142 q1_1 q2_143 hd_X5_requireKey.2 ⟨Nat.le_of_ble_eq_true rfl, Nat.le_of_ble_eq_true rfl⟩ ⟨rfl, rfl⟩ rfl hl.1 rfl (Nat.le_of_ble_eq_true rfl) dX5_pair_5 ⟨Nat.zero_le _, Nat.zero_le _⟩) (fun   H locs hpo hH => ?_)
  have hq := hq   hpo
  refine lv_iload_n hx hb dX5_pair_8 rfl (lv_at hl 3 rfl) ?_
  refine lv_if_lt (tgt := 17) hx hb dX5_pair_9 (by decide) (fun hc => ?_) (fun hc => ?_)
  · have hq := hq.1 hc
    exact s_X5_pair_17  C0   _ _ _ _ hq hH (lv_sub hl [] rfl)
  · have hq := hq.2 hc
    refine lv_iload_n hx hb dX5_pair_12 rfl (lv_at hl 3 rfl) ?_
    refine lv_iconst (v := 4) hx hb dX5_pair_13 (by decide) ?_
    refine lv_icmp_le (tgt := 27) hx hb dX5_pair_14 (by decide) (fun hc => ?_) (fun hc => ?_)
    · have hq := hq.1 hc
      refine lv_aload_n hx hb dX5_pair_27 rfl (lv_at hl 0 rfl) ?_
      refine lv_iload_n hx hb dX5_pair_28 rfl (lv_at hl 1 rfl) ?_
      refine lv_iload_n hx hb dX5_pair_29 rfl (lv_at hl 2 rfl) ?_
      obtain ⟨hp, hq⟩ := hq
      refine w_cV hH (w_rV (As := [.int x1, .int x2]) (rest := []) hX hK hE hH (c_X5_showPair  _ _ _ hp) ck5 sh0 q2_223 q2_225 qs7 q1_1 q2_226 hd_X5_showPair ⟨Nat.le_of_ble_eq_true rfl, Nat.le_of_ble_eq_true rfl⟩ ⟨rfl, rfl⟩ rfl hl.1 rfl (Nat.le_of_ble_eq_true rfl) dX5_pair_30 ⟨Nat.zero_le _, Nat.zero_le _⟩) (fun  I1 H locs hpo hH => ?_)
      have hq := hq  I1 hpo
      refine lv_iload_n hx hb dX5_pair_33 rfl (lv_at hl 3 rfl) ?_
      by_cases hc0 : x3 = (0 : Int32)
      · have hq := hq.1 hc0
        refine lv_tableIn (tgt := 64) hx hb dX5_pair_34 (by rw [hc0]; decide) (by rw [hc0]; decide) (by rw [hc0]; rfl) (by decide) ?_
        refine lv_aload_n hx hb dX5_pair_64 rfl (lv_at hl 0 rfl) ?_
        refine w_getr hX hK hH ck5 sh0 6 30 30 fr5_6 rfl q1_178 dX5_pair_65 ?_
        obtain ⟨hp, hq⟩ := hq
        refine w_cIp hH (w_rV (As := []) (rest := []) hX hK hE hH (c_X0_reach (sf5_6 sh0)  _ hp) ck0 (sf5_6 sh0) q2_186 q2_187 q2_188 q1_3 q2_189 hd_X0_reach ⟨Nat.le_of_ble_eq_true rfl, Nat.le_of_ble_eq_true rfl⟩ ⟨rfl, rfl⟩ rfl hl.1 rfl (Nat.le_of_ble_eq_true rfl) dX5_pair_68 ⟨Nat.zero_le _, Nat.zero_le _⟩) (fun r2  H locs hpo hH => ?_)
        have hq := hq r2  hpo
        exact w_eI hX hr hlk hH hq dX5_pair_71
      by_cases hc1 : x3 = (1 : Int32)
      · have hq := hq.2.1 hc1
        refine lv_tableIn (tgt := 72) hx hb dX5_pair_34 (by rw [hc1]; decide) (by rw [hc1]; decide) (by rw [hc1]; rfl) (by decide) ?_
        refine lv_aload_n hx hb dX5_pair_72 rfl (lv_at hl 0 rfl) ?_
        refine w_getr hX hK hH ck5 sh0 6 30 30 fr5_6 rfl q1_178 dX5_pair_73 ?_
        obtain ⟨hp, hq⟩ := hq
        refine w_cIp hH (w_rV (As := []) (rest := []) hX hK hE hH (c_X0_reach (sf5_6 sh0)  _ hp) ck0 (sf5_6 sh0) q2_186 q2_187 q2_188 q1_3 q2_189 hd_X0_reach ⟨Nat.le_of_ble_eq_true rfl, Nat.le_of_ble_eq_true rfl⟩ ⟨rfl, rfl⟩ rfl hl.1 rfl (Nat.le_of_ble_eq_true rfl) dX5_pair_76 ⟨Nat.zero_le _, Nat.zero_le _⟩) (fun r3  H locs hpo hH => ?_)
        have hq := hq r3  hpo
        obtain ⟨hp, hq⟩ := hq
        refine w_cIp hH (w_rS (As := [.int r3]) (rest := []) hX hK hE hH (c_J_bitCount  _ _ hp) q2_227 q2_228 q1_12 q2_229 hd_J_bitCount.2 ⟨Nat.le_of_ble_eq_true rfl, Nat.le_of_ble_eq_true rfl⟩ ⟨rfl, rfl⟩ rfl hl.1 rfl (Nat.le_of_ble_eq_true rfl) dX5_pair_79 ⟨Nat.zero_le _, Nat.zero_le _⟩) (fun r4  H locs hpo hH => ?_)
        have hq := hq r4  hpo
        exact w_eI hX hr hlk hH hq dX5_pair_82
      by_cases hc2 : x3 = (2 : Int32)
      · have hq := hq.2.2.1 hc2
        refine lv_tableIn (tgt := 83) hx hb dX5_pair_34 (by rw [hc2]; decide) (by rw [hc2]; decide) (by rw [hc2]; rfl) (by decide) ?_
        refine lv_aload_n hx hb dX5_pair_83 rfl (lv_at hl 0 rfl) ?_
        obtain ⟨hp, hq⟩ := hq
        refine w_cI hH (w_rV (As := []) (rest := []) hX hK hE hH (c_X5_periodByDoing   _ hp) ck5 sh0 q2_180 q2_182 qs5 q1_1 q2_183 hd_X5_periodByDoing ⟨Nat.le_of_ble_eq_true rfl, Nat.le_of_ble_eq_true rfl⟩ ⟨rfl, rfl⟩ rfl hl.1 rfl (Nat.le_of_ble_eq_true rfl) dX5_pair_84 ⟨Nat.zero_le _, Nat.zero_le _⟩) (fun r5 I6 H locs hpo hH => ?_)
        have hq := hq r5 I6 hpo
        exact w_eI hX hr hlk hH hq dX5_pair_87
      by_cases hc3 : x3 = (3 : Int32)
      · have hq := hq.2.2.2.1 hc3
        refine lv_tableIn (tgt := 88) hx hb dX5_pair_34 (by rw [hc3]; decide) (by rw [hc3]; decide) (by rw [hc3]; rfl) (by decide) ?_
        refine lv_aload_n hx hb dX5_pair_88 rfl (lv_at hl 0 rfl) ?_
        refine w_getr hX hK hH ck5 sh0 6 30 30 fr5_6 rfl q1_178 dX5_pair_89 ?_
        obtain ⟨hp, hq⟩ := hq
        refine w_cIp hH (w_rV (As := []) (rest := []) hX hK hE hH (c_X0_periodByRounds (sf5_6 sh0)  _ hp) ck0 (sf5_6 sh0) q2_194 q2_195 q2_196 q1_3 q2_197 hd_X0_periodByRounds ⟨Nat.le_of_ble_eq_true rfl, Nat.le_of_ble_eq_true rfl⟩ ⟨rfl, rfl⟩ rfl hl.1 rfl (Nat.le_of_ble_eq_true rfl) dX5_pair_92 ⟨Nat.zero_le _, Nat.zero_le _⟩) (fun r7  H locs hpo hH => ?_)
        have hq := hq r7  hpo
        exact w_eI hX hr hlk hH hq dX5_pair_95
      have hq := hq.2.2.2.2 ⟨hc0, hc1, hc2, hc3⟩
      have he0 := w_toInt_ne hc0
      have he1 := w_toInt_ne hc1
      have he2 := w_toInt_ne hc2
      have he3 := w_toInt_ne hc3
      refine lv_tableOut (tgt := 96) hx hb dX5_pair_34 (w_swOut0_3 hc0 hc1 hc2 hc3) (by decide) ?_
      refine lv_aload_n hx hb dX5_pair_96 rfl (lv_at hl 0 rfl) ?_
      refine w_getr hX hK hH ck5 sh0 6 30 30 fr5_6 rfl q1_178 dX5_pair_97 ?_
      obtain ⟨hp, hq⟩ := hq
      refine w_cIp hH (w_rV (As := []) (rest := []) hX hK hE hH (c_X0_reach (sf5_6 sh0)  _ hp) ck0 (sf5_6 sh0) q2_186 q2_187 q2_188 q1_3 q2_189 hd_X0_reach ⟨Nat.le_of_ble_eq_true rfl, Nat.le_of_ble_eq_true rfl⟩ ⟨rfl, rfl⟩ rfl hl.1 rfl (Nat.le_of_ble_eq_true rfl) dX5_pair_100 ⟨Nat.zero_le _, Nat.zero_le _⟩) (fun r8  H locs hpo hH => ?_)
      have hq := hq r8  hpo
      refine lv_if_ne (tgt := 110) hx hb dX5_pair_103 (by decide) (fun hc => ?_) (fun hc => ?_)
      · have hq := hq.1 hc
        refine lv_iconst (v := 0) hx hb dX5_pair_110 (by decide) ?_
        exact s_X5_pair_111  C0  (0 : Int32) _ _ _ _ hq hH (lv_sub hl [] rfl)
      · have hq := hq.2 hc
        refine lv_iconst (v := 1) hx hb dX5_pair_106 (by decide) ?_
        refine lv_goto (tgt := 111) hx hb dX5_pair_107 (by decide) ?_
        exact s_X5_pair_111  C0  (1 : Int32) _ _ _ _ hq hH (lv_sub hl [] rfl)
    · have hq := hq.2 hc
      exact s_X5_pair_17  C0   _ _ _ _ hq hH (lv_sub hl [] rfl)
end
