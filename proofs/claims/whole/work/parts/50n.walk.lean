section
variable {p : Program} {l : Launch} {e : Env} {s : State} {m : MethodId} {args : Array Value} {below : List Frame} {meth : Method} {c : Code} {D : va_G} {cs : wC4} {ad : Nat → Nat} {b : Nat} {G : wG}
abbrev rm_X6_pairNow : Room := { frames := 3, cells := 0, slots := 0, locals := 72 }
theorem hd_X6_pairNow : yX6_pairNow.cls = RX6 ∧ yX6_pairNow.cls ≠ "java/lang/invoke/MethodHandle" ∧ yX6_pairNow.cls ≠ "java/lang/invoke/VarHandle" ∧ (parseMethodDescriptor yX6_pairNow.desc).map (fun d => d.parameters.length) = some 3 := by decide +kernel
set_option maxRecDepth 100000 in
set_option maxHeartbeats 4000000 in
theorem s_X6_pairNow_82 {x1 : Int32} {x2 : Int32} {x3 : Int32} {Q : Int32 → wI → Prop} (C0 : wCx p m c s args meth cX6_pairNow 6 RX6 (some .int) D cs ad b) : ∀ (t0 : Int32) (I : wI) (H : Heap) (locs : List Loc) (ls : Array Slot), v_X6_pairNow_82 x1 x2 x3 Q t0 I → wH D cs b G I s H locs → lv_has ls 6 [(0, .ref (b + 111))] → W p l e rm_X6_pairNow s m args below meth c H locs 0 0 (MQ below (va_Qi (Q) (wPo D cs b G) (fun q => b ≤ q)) args s 0 0 (fun q => b ≤ q)) (F0 m 82 ls [.int t0]) := by
  obtain ⟨hX, hr, hlk, hK, hE⟩ := id C0
  have hx := hX.1
  have hb := hX.2.1
  have hown := hX.2.2.2.1
  have hts := hX.2.2.2.2
  intro t0 I H locs ls hq hH hl
  unfold v_X6_pairNow_82 at hq
  refine lv_istore (lv' := [(5, .int t0), (0, .ref (b + 111))]) hx hb dX6_pairNow_82 hl (by decide) rfl (fun ls hl => ?_)
  refine lv_aload_n hx hb dX6_pairNow_84 rfl (lv_at hl 1 rfl) ?_
  obtain ⟨hp, hq⟩ := hq
  refine w_cV hH (w_rV (As := []) (rest := []) hX hK hE hH (c_X6_putBack   _ hp) ck6 sh111 q5_80 q5_82 qs55 q1_7 q5_83 hd_X6_putBack ⟨Nat.le_of_ble_eq_true rfl, Nat.le_of_ble_eq_true rfl⟩ ⟨rfl, rfl⟩ rfl hl.1 rfl (Nat.le_of_ble_eq_true rfl) dX6_pairNow_85 ⟨Nat.zero_le _, Nat.zero_le _⟩) (fun  I1 H locs hpo hH => ?_)
  have hq := hq  I1 hpo
  refine lv_iload hx hb dX6_pairNow_88 (lv_at hl 0 rfl) ?_
  exact w_eI hX hr hlk hH hq dX6_pairNow_90
set_option maxRecDepth 100000 in
set_option maxHeartbeats 4000000 in
theorem c_X6_pairNow {l : Launch} {D : va_G} {cs : wC4} {ad : Nat → Nat} {b : Nat} {G : wG} (x1 : Int32) (x2 : Int32) (x3 : Int32) (I : wI) (hp : pre_X6_pairNow x1 x2 x3 I) : Met l yX6_pairNow (ws_ yX6_pairNow cX6_pairNow 6 (some .int)) rm_X6_pairNow (va_Pc [.ref (b + 111), .int x1, .int x2, .int x3] (wPr D cs ad b G I)) (va_Qi (fun r I' => post_X6_pairNow x1 x2 x3 I r I') (wPo D cs b G) (fun q => b ≤ q)) 0 0 (fun q => b ≤ q) := by
  have hq := vc_X6_pairNow x1 x2 x3 I hp
  refine w_met (by decide) (Nat.le_of_ble_eq_true rfl) ?_
  intro p e s m below meth c hX hr hlk hK hE hH ls hl
  have C0 : wCx p m c s _ meth cX6_pairNow 6 RX6 (some .int) D cs ad b := ⟨hX, hr, hlk, hK, hE⟩
  have hX : CallFix p m c cX6_pairNow 6 s _ lw_all RX6 := hX
  have hx := hX.1
  have hb := hX.2.1
  have hown := hX.2.2.2.1
  have hts := hX.2.2.2.2
  have hl : lv_has ls 6 [(0, .ref (b + 111)), (1, .int x1), (2, .int x2), (3, .int x3)] := hl
  unfold v_X6_pairNow at hq
  refine lv_aload_n hx hb dX6_pairNow_0 rfl (lv_at hl 0 rfl) ?_
  obtain ⟨hp, hq⟩ := hq
  refine w_cV hH (w_rV (As := []) (rest := []) hX hK hE hH (c_X6_putAside   _ hp) ck6 sh111 q5_69 q5_71 qs53 q1_7 q5_72 hd_X6_putAside ⟨Nat.le_of_ble_eq_true rfl, Nat.le_of_ble_eq_true rfl⟩ ⟨rfl, rfl⟩ rfl hl.1 rfl (Nat.le_of_ble_eq_true rfl) dX6_pairNow_1 ⟨Nat.zero_le _, Nat.zero_le _⟩) (fun  I1 H locs hpo hH => ?_)
  have hq := hq  I1 hpo
  refine lv_aload_n hx hb dX6_pairNow_4 rfl (lv_at hl 0 rfl) ?_
  obtain ⟨hp, hq⟩ := hq
  refine w_cV hH (w_rV (As := []) (rest := []) hX hK hE hH (c_X6_toFirst   _ hp) ck6 sh111 q5_6 q5_8 qs46 q1_7 q5_9 hd_X6_toFirst ⟨Nat.le_of_ble_eq_true rfl, Nat.le_of_ble_eq_true rfl⟩ ⟨rfl, rfl⟩ rfl hl.1 rfl (Nat.le_of_ble_eq_true rfl) dX6_pairNow_5 ⟨Nat.zero_le _, Nat.zero_le _⟩) (fun  I2 H locs hpo hH => ?_)
  have hq := hq  I2 hpo
  refine lv_aload_n hx hb dX6_pairNow_8 rfl (lv_at hl 0 rfl) ?_
  refine lv_iload_n hx hb dX6_pairNow_9 rfl (lv_at hl 1 rfl) ?_
  obtain ⟨hp, hq⟩ := hq
  refine w_cV hH (w_rV (As := [.int x1]) (rest := []) hX hK hE hH (c_X6_doTurn  _ _ hp) ck6 sh111 q4_195 q4_197 qs37 q1_7 q4_198 hd_X6_doTurn ⟨Nat.le_of_ble_eq_true rfl, Nat.le_of_ble_eq_true rfl⟩ ⟨rfl, rfl⟩ rfl hl.1 rfl (Nat.le_of_ble_eq_true rfl) dX6_pairNow_10 ⟨Nat.zero_le _, Nat.zero_le _⟩) (fun  I3 H locs hpo hH => ?_)
  have hq := hq  I3 hpo
  refine lv_aload_n hx hb dX6_pairNow_13 rfl (lv_at hl 0 rfl) ?_
  refine lv_iload_n hx hb dX6_pairNow_14 rfl (lv_at hl 2 rfl) ?_
  obtain ⟨hp, hq⟩ := hq
  refine w_cV hH (w_rV (As := [.int x2]) (rest := []) hX hK hE hH (c_X6_doTurn  _ _ hp) ck6 sh111 q4_195 q4_197 qs37 q1_7 q4_198 hd_X6_doTurn ⟨Nat.le_of_ble_eq_true rfl, Nat.le_of_ble_eq_true rfl⟩ ⟨rfl, rfl⟩ rfl hl.1 rfl (Nat.le_of_ble_eq_true rfl) dX6_pairNow_15 ⟨Nat.zero_le _, Nat.zero_le _⟩) (fun  I4 H locs hpo hH => ?_)
  have hq := hq  I4 hpo
  refine lv_aload_n hx hb dX6_pairNow_18 rfl (lv_at hl 0 rfl) ?_
  refine lv_iconst (v := 5) hx hb dX6_pairNow_19 (by decide) ?_
  refine lv_iload_n hx hb dX6_pairNow_20 rfl (lv_at hl 1 rfl) ?_
  refine lv_iadd hx hb dX6_pairNow_21 ?_
  obtain ⟨hp, hq⟩ := hq
  refine w_cV hH (w_rV (As := [.int ((5 : Int32) + x1)]) (rest := []) hX hK hE hH (c_X6_doTurn  _ _ hp) ck6 sh111 q4_195 q4_197 qs37 q1_7 q4_198 hd_X6_doTurn ⟨Nat.le_of_ble_eq_true rfl, Nat.le_of_ble_eq_true rfl⟩ ⟨rfl, rfl⟩ rfl hl.1 rfl (Nat.le_of_ble_eq_true rfl) dX6_pairNow_22 ⟨Nat.zero_le _, Nat.zero_le _⟩) (fun  I5 H locs hpo hH => ?_)
  have hq := hq  I5 hpo
  refine lv_aload_n hx hb dX6_pairNow_25 rfl (lv_at hl 0 rfl) ?_
  refine lv_iconst (v := 5) hx hb dX6_pairNow_26 (by decide) ?_
  refine lv_iload_n hx hb dX6_pairNow_27 rfl (lv_at hl 2 rfl) ?_
  refine lv_iadd hx hb dX6_pairNow_28 ?_
  obtain ⟨hp, hq⟩ := hq
  refine w_cV hH (w_rV (As := [.int ((5 : Int32) + x2)]) (rest := []) hX hK hE hH (c_X6_doTurn  _ _ hp) ck6 sh111 q4_195 q4_197 qs37 q1_7 q4_198 hd_X6_doTurn ⟨Nat.le_of_ble_eq_true rfl, Nat.le_of_ble_eq_true rfl⟩ ⟨rfl, rfl⟩ rfl hl.1 rfl (Nat.le_of_ble_eq_true rfl) dX6_pairNow_29 ⟨Nat.zero_le _, Nat.zero_le _⟩) (fun  I6 H locs hpo hH => ?_)
  have hq := hq  I6 hpo
  refine lv_aload_n hx hb dX6_pairNow_32 rfl (lv_at hl 0 rfl) ?_
  obtain ⟨hp, hq⟩ := hq
  refine w_cIp hH (w_rV (As := []) (rest := []) hX hK hE hH (c_X6_reach   _ hp) ck6 sh111 q5_92 q5_94 qs57 q1_7 q5_95 hd_X6_reach ⟨Nat.le_of_ble_eq_true rfl, Nat.le_of_ble_eq_true rfl⟩ ⟨rfl, rfl⟩ rfl hl.1 rfl (Nat.le_of_ble_eq_true rfl) dX6_pairNow_33 ⟨Nat.zero_le _, Nat.zero_le _⟩) (fun r7  H locs hpo hH => ?_)
  have hq := hq r7  hpo
  refine lv_istore (lv' := [(4, .int r7), (0, .ref (b + 111)), (1, .int x1), (2, .int x2), (3, .int x3)]) hx hb dX6_pairNow_36 hl (by decide) rfl (fun ls hl => ?_)
  refine lv_iload_n hx hb dX6_pairNow_38 rfl (lv_at hl 4 rfl) ?_
  refine lv_if_ne (tgt := 47) hx hb dX6_pairNow_39 (by decide) (fun hc => ?_) (fun hc => ?_)
  · have hq := hq.1 hc
    refine lv_iload_n hx hb dX6_pairNow_47 rfl (lv_at hl 4 rfl) ?_
    refine lv_iconst (v := 1) hx hb dX6_pairNow_48 (by decide) ?_
    refine lv_icmp_ne (tgt := 60) hx hb dX6_pairNow_49 (by decide) (fun hc => ?_) (fun hc => ?_)
    · have hq := hq.1 hc
      refine lv_iload_n hx hb dX6_pairNow_60 rfl (lv_at hl 4 rfl) ?_
      refine lv_iconst (v := 4) hx hb dX6_pairNow_61 (by decide) ?_
      refine lv_icmp_ne (tgt := 78) hx hb dX6_pairNow_62 (by decide) (fun hc => ?_) (fun hc => ?_)
      · have hq := hq.1 hc
        refine lv_aload_n hx hb dX6_pairNow_78 rfl (lv_at hl 1 rfl) ?_
        obtain ⟨hp, hq⟩ := hq
        refine w_cIp hH (w_rV (As := []) (rest := []) hX hK hE hH (c_X6_period   _ hp) ck6 sh111 q5_73 q5_75 qs54 q1_7 q5_76 hd_X6_period ⟨Nat.le_of_ble_eq_true rfl, Nat.le_of_ble_eq_true rfl⟩ ⟨rfl, rfl⟩ rfl hl.1 rfl (Nat.le_of_ble_eq_true rfl) dX6_pairNow_79 ⟨Nat.zero_le _, Nat.zero_le _⟩) (fun r8  H locs hpo hH => ?_)
        have hq := hq r8  hpo
        exact s_X6_pairNow_82  C0  r8 _ _ _ _ hq hH (lv_sub hl [1] rfl)
      · have hq := hq.2 hc
        refine lv_iload hx hb dX6_pairNow_65 (lv_at hl 0 rfl) ?_
        refine lv_if_ne (tgt := 74) hx hb dX6_pairNow_67 (by decide) (fun hc => ?_) (fun hc => ?_)
        · have hq := hq.1 hc
          refine lv_iconst (v := 0) hx hb dX6_pairNow_74 (by decide) ?_
          refine lv_goto (tgt := 82) hx hb dX6_pairNow_75 (by decide) ?_
          exact s_X6_pairNow_82  C0  (0 : Int32) _ _ _ _ hq hH (lv_sub hl [1] rfl)
        · have hq := hq.2 hc
          refine lv_iconst (v := 1) hx hb dX6_pairNow_70 (by decide) ?_
          refine lv_goto (tgt := 82) hx hb dX6_pairNow_71 (by decide) ?_
          exact s_X6_pairNow_82  C0  (1 : Int32) _ _ _ _ hq hH (lv_sub hl [1] rfl)
    · have hq := hq.2 hc
      refine lv_iload hx hb dX6_pairNow_52 (lv_at hl 0 rfl) ?_
      obtain ⟨hp, hq⟩ := hq
      refine w_cIp hH (w_rS (As := [.int r7]) (rest := []) hX hK hE hH (c_X6_ones  _ _ hp) q4_203 q4_204 q1_7 q4_205 hd_X6_ones.2 ⟨Nat.le_of_ble_eq_true rfl, Nat.le_of_ble_eq_true rfl⟩ ⟨rfl, rfl⟩ rfl hl.1 rfl (Nat.le_of_ble_eq_true rfl) dX6_pairNow_54 ⟨Nat.zero_le _, Nat.zero_le _⟩) (fun r9  H locs hpo hH => ?_)
      have hq := hq r9  hpo
      refine lv_goto (tgt := 82) hx hb dX6_pairNow_57 (by decide) ?_
      exact s_X6_pairNow_82  C0  r9 _ _ _ _ hq hH (lv_sub hl [1] rfl)
  · have hq := hq.2 hc
    refine lv_iload hx hb dX6_pairNow_42 (lv_at hl 0 rfl) ?_
    refine lv_goto (tgt := 82) hx hb dX6_pairNow_44 (by decide) ?_
    exact s_X6_pairNow_82  C0  r7 _ _ _ _ hq hH (lv_sub hl [1] rfl)
abbrev rm_X6_pair : Room := { frames := 4, cells := 0, slots := 0, locals := 97 }
theorem hd_X6_pair : yX6_pair.cls = RX6 ∧ yX6_pair.cls ≠ "java/lang/invoke/MethodHandle" ∧ yX6_pair.cls ≠ "java/lang/invoke/VarHandle" ∧ (parseMethodDescriptor yX6_pair.desc).map (fun d => d.parameters.length) = some 3 := by decide +kernel
set_option maxRecDepth 100000 in
set_option maxHeartbeats 4000000 in
theorem s_X6_pair_54 {x1 : Int32} {x2 : Int32} {x3 : Int32} {Q : Int32 → wI → Prop} (C0 : wCx p m c s args meth cX6_pair 4 RX6 (some .int) D cs ad b) : ∀ (t0 : Int32) (I : wI) (H : Heap) (locs : List Loc) (ls : Array Slot), v_X6_pair_54 x1 x2 x3 Q t0 I → wH D cs b G I s H locs → lv_has ls 4 [] → W p l e rm_X6_pair s m args below meth c H locs 0 0 (MQ below (va_Qi (Q) (wPo D cs b G) (fun q => b ≤ q)) args s 0 0 (fun q => b ≤ q)) (F0 m 54 ls [.int t0]) := by
  obtain ⟨hX, hr, hlk, hK, hE⟩ := id C0
  have hx := hX.1
  have hb := hX.2.1
  have hown := hX.2.2.2.1
  have hts := hX.2.2.2.2
  intro t0 I H locs ls hq hH hl
  unfold v_X6_pair_54 at hq
  exact w_eI hX hr hlk hH hq dX6_pair_54
set_option maxRecDepth 100000 in
set_option maxHeartbeats 4000000 in
theorem s_X6_pair_33 {x1 : Int32} {x2 : Int32} {x3 : Int32} {Q : Int32 → wI → Prop} (C0 : wCx p m c s args meth cX6_pair 4 RX6 (some .int) D cs ad b) : ∀ (t0 : Int32) (I : wI) (H : Heap) (locs : List Loc) (ls : Array Slot), v_X6_pair_33 x1 x2 x3 Q t0 I → wH D cs b G I s H locs → lv_has ls 4 [(0, .ref (b + 111)), (1, .int x1), (2, .int x2), (3, .int x3)] → W p l e rm_X6_pair s m args below meth c H locs 0 0 (MQ below (va_Qi (Q) (wPo D cs b G) (fun q => b ≤ q)) args s 0 0 (fun q => b ≤ q)) (F0 m 33 ls [.int t0, .ref (b + 111)]) := by
  obtain ⟨hX, hr, hlk, hK, hE⟩ := id C0
  have hx := hX.1
  have hb := hX.2.1
  have hown := hX.2.2.2.1
  have hts := hX.2.2.2.2
  intro t0 I H locs ls hq hH hl
  unfold v_X6_pair_33 at hq
  refine w_puti hX hK hH ck6 sh111 0 fw6_0 q4_73 dX6_pair_33 (fun I1 H locs hI hH => ?_)
  have hq := hq I1 hI
  refine lv_aload_n hx hb dX6_pair_36 rfl (lv_at hl 0 rfl) ?_
  refine w_geti hX hK hH ck6 sh111 0 fi6_0 q4_73 dX6_pair_37 ?_
  refine lv_if_le (tgt := 47) hx hb dX6_pair_40 (by decide) (fun hc => ?_) (fun hc => ?_)
  · have hq := hq.1 hc
    refine lv_aload_n hx hb dX6_pair_47 rfl (lv_at hl 0 rfl) ?_
    refine lv_iload_n hx hb dX6_pair_48 rfl (lv_at hl 1 rfl) ?_
    refine lv_iload_n hx hb dX6_pair_49 rfl (lv_at hl 2 rfl) ?_
    refine lv_iload_n hx hb dX6_pair_50 rfl (lv_at hl 3 rfl) ?_
    obtain ⟨hp, hq⟩ := hq
    refine w_cI hH (w_rV (As := [.int x1, .int x2, .int x3]) (rest := []) hX hK hE hH (c_X6_pairNow  _ _ _ _ hp) ck6 sh111 q5_88 q5_90 qs56 q1_7 q5_91 hd_X6_pairNow ⟨Nat.le_of_ble_eq_true rfl, Nat.le_of_ble_eq_true rfl⟩ ⟨rfl, rfl⟩ rfl hl.1 rfl (Nat.le_of_ble_eq_true rfl) dX6_pair_51 ⟨Nat.zero_le _, Nat.zero_le _⟩) (fun r2 I3 H locs hpo hH => ?_)
    have hq := hq r2 I3 hpo
    exact s_X6_pair_54  C0  r2 _ _ _ _ hq hH (lv_sub hl [] rfl)
  · have hq := hq.2 hc
    refine lv_iconst (v := 0) hx hb dX6_pair_43 (by decide) ?_
    refine lv_goto (tgt := 54) hx hb dX6_pair_44 (by decide) ?_
    exact s_X6_pair_54  C0  (0 : Int32) _ _ _ _ hq hH (lv_sub hl [] rfl)
set_option maxRecDepth 100000 in
set_option maxHeartbeats 4000000 in
theorem s_X6_pair_15 {x1 : Int32} {x2 : Int32} {x3 : Int32} {Q : Int32 → wI → Prop} (C0 : wCx p m c s args meth cX6_pair 4 RX6 (some .int) D cs ad b) : ∀  (I : wI) (H : Heap) (locs : List Loc) (ls : Array Slot), v_X6_pair_15 x1 x2 x3 Q  I → wH D cs b G I s H locs → lv_has ls 4 [(0, .ref (b + 111)), (1, .int x1), (2, .int x2), (3, .int x3)] → W p l e rm_X6_pair s m args below meth c H locs 0 0 (MQ below (va_Qi (Q) (wPo D cs b G) (fun q => b ≤ q)) args s 0 0 (fun q => b ≤ q)) (F0 m 15 ls [.ref (b + 111)]) := by
  obtain ⟨hX, hr, hlk, hK, hE⟩ := id C0
  have hx := hX.1
  have hb := hX.2.1
  have hown := hX.2.2.2.1
  have hts := hX.2.2.2.2
  intro  I H locs ls hq hH hl
  unfold v_X6_pair_15 at hq
  refine lv_iconst (v := 1) hx hb dX6_pair_15 (by decide) ?_
  refine lv_goto (tgt := 33) hx hb dX6_pair_16 (by decide) ?_
  exact s_X6_pair_33  C0  (1 : Int32) _ _ _ _ hq hH (lv_sub hl [0, 1, 2, 3] rfl)
set_option maxRecDepth 100000 in
set_option maxHeartbeats 4000000 in
theorem c_X6_pair {l : Launch} {D : va_G} {cs : wC4} {ad : Nat → Nat} {b : Nat} {G : wG} (x1 : Int32) (x2 : Int32) (x3 : Int32) (I : wI) (hp : pre_X6_pair x1 x2 x3 I) : Met l yX6_pair (ws_ yX6_pair cX6_pair 4 (some .int)) rm_X6_pair (va_Pc [.ref (b + 111), .int x1, .int x2, .int x3] (wPr D cs ad b G I)) (va_Qi (fun r I' => post_X6_pair x1 x2 x3 I r I') (wPo D cs b G) (fun q => b ≤ q)) 0 0 (fun q => b ≤ q) := by
  have hq := vc_X6_pair x1 x2 x3 I hp
  refine w_met (by decide) (Nat.le_of_ble_eq_true rfl) ?_
  intro p e s m below meth c hX hr hlk hK hE hH ls hl
  have C0 : wCx p m c s _ meth cX6_pair 4 RX6 (some .int) D cs ad b := ⟨hX, hr, hlk, hK, hE⟩
  have hX : CallFix p m c cX6_pair 4 s _ lw_all RX6 := hX
  have hx := hX.1
  have hb := hX.2.1
  have hown := hX.2.2.2.1
  have hts := hX.2.2.2.2
  have hl : lv_has ls 4 [(0, .ref (b + 111)), (1, .int x1), (2, .int x2), (3, .int x3)] := hl
  unfold v_X6_pair at hq
  refine lv_aload_n hx hb dX6_pair_0 rfl (lv_at hl 0 rfl) ?_
  refine lv_iload_n hx hb dX6_pair_1 rfl (lv_at hl 1 rfl) ?_
  obtain ⟨hp, hq⟩ := hq
  refine w_cIp hH (w_rS (As := [.int x1]) (rest := [.ref (b + 111)]) hX hK hE hH (c_X6_isKey  _ _ hp) q4_165 q4_166 q1_7 q4_167 hd_X6_isKey.2 ⟨Nat.le_of_ble_eq_true rfl, Nat.le_of_ble_eq_true rfl⟩ ⟨rfl, rfl⟩ rfl hl.1 rfl (Nat.le_of_ble_eq_true rfl) dX6_pair_2 ⟨Nat.zero_le _, Nat.zero_le _⟩) (fun r1  H locs hpo hH => ?_)
  have hq := hq r1  hpo
  refine lv_if_eq (tgt := 15) hx hb dX6_pair_5 (by decide) (fun hc => ?_) (fun hc => ?_)
  · have hq := hq.1 hc
    exact s_X6_pair_15  C0   _ _ _ _ hq hH (lv_sub hl [0, 1, 2, 3] rfl)
  · have hq := hq.2 hc
    refine lv_iload_n hx hb dX6_pair_8 rfl (lv_at hl 2 rfl) ?_
    obtain ⟨hp, hq⟩ := hq
    refine w_cIp hH (w_rS (As := [.int x2]) (rest := [.ref (b + 111)]) hX hK hE hH (c_X6_isKey  _ _ hp) q4_165 q4_166 q1_7 q4_167 hd_X6_isKey.2 ⟨Nat.le_of_ble_eq_true rfl, Nat.le_of_ble_eq_true rfl⟩ ⟨rfl, rfl⟩ rfl hl.1 rfl (Nat.le_of_ble_eq_true rfl) dX6_pair_9 ⟨Nat.zero_le _, Nat.zero_le _⟩) (fun r2  H locs hpo hH => ?_)
    have hq := hq r2  hpo
    refine lv_if_ne (tgt := 19) hx hb dX6_pair_12 (by decide) (fun hc => ?_) (fun hc => ?_)
    · have hq := hq.1 hc
      refine lv_iload_n hx hb dX6_pair_19 rfl (lv_at hl 3 rfl) ?_
      refine lv_iconst (v := 0) hx hb dX6_pair_20 (by decide) ?_
      refine lv_iconst (v := 4) hx hb dX6_pair_21 (by decide) ?_
      obtain ⟨hp, hq⟩ := hq
      refine w_cIp hH (w_rS (As := [.int x3, .int (0 : Int32), .int (4 : Int32)]) (rest := [.ref (b + 111)]) hX hK hE hH (c_X6_in  _ _ _ _ hp) q4_168 q4_169 q1_7 q4_170 hd_X6_in.2 ⟨Nat.le_of_ble_eq_true rfl, Nat.le_of_ble_eq_true rfl⟩ ⟨rfl, rfl⟩ rfl hl.1 rfl (Nat.le_of_ble_eq_true rfl) dX6_pair_22 ⟨Nat.zero_le _, Nat.zero_le _⟩) (fun r3  H locs hpo hH => ?_)
      have hq := hq r3  hpo
      refine lv_if_eq (tgt := 32) hx hb dX6_pair_25 (by decide) (fun hc => ?_) (fun hc => ?_)
      · have hq := hq.1 hc
        refine lv_iconst (v := 2) hx hb dX6_pair_32 (by decide) ?_
        exact s_X6_pair_33  C0  (2 : Int32) _ _ _ _ hq hH (lv_sub hl [0, 1, 2, 3] rfl)
      · have hq := hq.2 hc
        refine lv_iconst (v := 0) hx hb dX6_pair_28 (by decide) ?_
        refine lv_goto (tgt := 33) hx hb dX6_pair_29 (by decide) ?_
        exact s_X6_pair_33  C0  (0 : Int32) _ _ _ _ hq hH (lv_sub hl [0, 1, 2, 3] rfl)
    · have hq := hq.2 hc
      exact s_X6_pair_15  C0   _ _ _ _ hq hH (lv_sub hl [0, 1, 2, 3] rfl)
abbrev rm_X6_wordNow : Room := { frames := 3, cells := 0, slots := 0, locals := 72 }
theorem hd_X6_wordNow : yX6_wordNow.cls = RX6 ∧ yX6_wordNow.cls ≠ "java/lang/invoke/MethodHandle" ∧ yX6_wordNow.cls ≠ "java/lang/invoke/VarHandle" ∧ (parseMethodDescriptor yX6_wordNow.desc).map (fun d => d.parameters.length) = some 1 := by decide +kernel
set_option maxRecDepth 100000 in
set_option maxHeartbeats 4000000 in
theorem s_X6_wordNow_81 {x1 : Int32} {Q : Int32 → wI → Prop} (C0 : wCx p m c s args meth cX6_wordNow 3 RX6 (some .int) D cs ad b) : ∀ (t0 : Int32) (I : wI) (H : Heap) (locs : List Loc) (ls : Array Slot), v_X6_wordNow_81 x1 Q t0 I → wH D cs b G I s H locs → lv_has ls 3 [(0, .ref (b + 111))] → W p l e rm_X6_wordNow s m args below meth c H locs 0 0 (MQ below (va_Qi (Q) (wPo D cs b G) (fun q => b ≤ q)) args s 0 0 (fun q => b ≤ q)) (F0 m 81 ls [.int t0]) := by
  obtain ⟨hX, hr, hlk, hK, hE⟩ := id C0
  have hx := hX.1
  have hb := hX.2.1
  have hown := hX.2.2.2.1
  have hts := hX.2.2.2.2
  intro t0 I H locs ls hq hH hl
  unfold v_X6_wordNow_81 at hq
  refine lv_istore_n (lv' := [(2, .int t0), (0, .ref (b + 111))]) hx hb dX6_wordNow_81 rfl hl (by decide) rfl (fun ls hl => ?_)
  refine lv_aload_n hx hb dX6_wordNow_82 rfl (lv_at hl 1 rfl) ?_
  obtain ⟨hp, hq⟩ := hq
  refine w_cV hH (w_rV (As := []) (rest := []) hX hK hE hH (c_X6_putBack   _ hp) ck6 sh111 q5_80 q5_82 qs55 q1_7 q5_83 hd_X6_putBack ⟨Nat.le_of_ble_eq_true rfl, Nat.le_of_ble_eq_true rfl⟩ ⟨rfl, rfl⟩ rfl hl.1 rfl (Nat.le_of_ble_eq_true rfl) dX6_wordNow_83 ⟨Nat.zero_le _, Nat.zero_le _⟩) (fun  I1 H locs hpo hH => ?_)
  have hq := hq  I1 hpo
  refine lv_iload_n hx hb dX6_wordNow_86 rfl (lv_at hl 0 rfl) ?_
  exact w_eI hX hr hlk hH hq dX6_wordNow_87
set_option maxRecDepth 100000 in
set_option maxHeartbeats 4000000 in
theorem s_X6_wordNow_41 {x1 : Int32} {Q : Int32 → wI → Prop} (C0 : wCx p m c s args meth cX6_wordNow 3 RX6 (some .int) D cs ad b) : ∀ (f : Nat) (v2 : Int32) (I : wI) (H : Heap) (locs : List Loc) (ls : Array Slot), v_X6_wordNow_41 x1 Q f v2 I → wH D cs b G I s H locs → lv_has ls 3 [(0, .ref (b + 111)), (1, .int x1), (2, .int v2)] → W p l e rm_X6_wordNow s m args below meth c H locs 0 0 (MQ below (va_Qi (Q) (wPo D cs b G) (fun q => b ≤ q)) args s 0 0 (fun q => b ≤ q)) (F0 m 41 ls []) := by
  obtain ⟨hX, hr, hlk, hK, hE⟩ := id C0
  have hx := hX.1
  have hb := hX.2.1
  have hown := hX.2.2.2.1
  have hts := hX.2.2.2.2
  intro f
  induction f with
  | zero =>
    intro v2 I H locs ls hq
    exact hq.elim
  | succ f hK41 =>
    intro v2 I H locs ls hq hH hl
    have hq : g_X6_wordNow_41 x1 Q (v_X6_wordNow_41 x1 Q f) v2 I := hq
    unfold g_X6_wordNow_41 at hq
    refine lv_iload_n hx hb dX6_wordNow_41 rfl (lv_at hl 2 rfl) ?_
    refine lv_aload_n hx hb dX6_wordNow_42 rfl (lv_at hl 0 rfl) ?_
    refine w_geti hX hK hH ck6 sh111 11 fi6_11 q4_84 dX6_wordNow_43 ?_
    refine lv_icmp_ge (tgt := 65) hx hb dX6_wordNow_46 (by decide) (fun hc => ?_) (fun hc => ?_)
    · have hq := hq.1 hc
      refine lv_iload_n hx hb dX6_wordNow_65 rfl (lv_at hl 1 rfl) ?_
      refine lv_iconst (v := 1) hx hb dX6_wordNow_66 (by decide) ?_
      refine lv_icmp_ne (tgt := 77) hx hb dX6_wordNow_67 (by decide) (fun hc => ?_) (fun hc => ?_)
      · have hq := hq.1 hc
        refine lv_aload_n hx hb dX6_wordNow_77 rfl (lv_at hl 0 rfl) ?_
        obtain ⟨hp, hq⟩ := hq
        refine w_cIp hH (w_rV (As := []) (rest := []) hX hK hE hH (c_X6_period   _ hp) ck6 sh111 q5_73 q5_75 qs54 q1_7 q5_76 hd_X6_period ⟨Nat.le_of_ble_eq_true rfl, Nat.le_of_ble_eq_true rfl⟩ ⟨rfl, rfl⟩ rfl hl.1 rfl (Nat.le_of_ble_eq_true rfl) dX6_wordNow_78 ⟨Nat.zero_le _, Nat.zero_le _⟩) (fun r1  H locs hpo hH => ?_)
        have hq := hq r1  hpo
        exact s_X6_wordNow_81  C0  r1 _ _ _ _ hq hH (lv_sub hl [0] rfl)
      · have hq := hq.2 hc
        refine lv_aload_n hx hb dX6_wordNow_70 rfl (lv_at hl 0 rfl) ?_
        obtain ⟨hp, hq⟩ := hq
        refine w_cIp hH (w_rV (As := []) (rest := []) hX hK hE hH (c_X6_reach   _ hp) ck6 sh111 q5_92 q5_94 qs57 q1_7 q5_95 hd_X6_reach ⟨Nat.le_of_ble_eq_true rfl, Nat.le_of_ble_eq_true rfl⟩ ⟨rfl, rfl⟩ rfl hl.1 rfl (Nat.le_of_ble_eq_true rfl) dX6_wordNow_71 ⟨Nat.zero_le _, Nat.zero_le _⟩) (fun r2  H locs hpo hH => ?_)
        have hq := hq r2  hpo
        refine lv_goto (tgt := 81) hx hb dX6_wordNow_74 (by decide) ?_
        exact s_X6_wordNow_81  C0  r2 _ _ _ _ hq hH (lv_sub hl [0] rfl)
    · have hq := hq.2 hc
      refine lv_aload_n hx hb dX6_wordNow_49 rfl (lv_at hl 0 rfl) ?_
      refine lv_aload_n hx hb dX6_wordNow_50 rfl (lv_at hl 0 rfl) ?_
      refine w_getr hX hK hH ck6 sh111 10 7 118 fr6_10 rfl q4_83 dX6_wordNow_51 ?_
      refine lv_iload_n hx hb dX6_wordNow_54 rfl (lv_at hl 2 rfl) ?_
      obtain ⟨hc, hq⟩ := hq
      refine w_iald hX hK hH (sf6_10 sh111) hc dX6_wordNow_55 ?_
      obtain ⟨hp, hq⟩ := hq
      refine w_cV hH (w_rV (As := [.int (I 118 (v2).toNatClampNeg)]) (rest := []) hX hK hE hH (c_X6_doTurn  _ _ hp) ck6 sh111 q4_195 q4_197 qs37 q1_7 q4_198 hd_X6_doTurn ⟨Nat.le_of_ble_eq_true rfl, Nat.le_of_ble_eq_true rfl⟩ ⟨rfl, rfl⟩ rfl hl.1 rfl (Nat.le_of_ble_eq_true rfl) dX6_wordNow_56 ⟨Nat.zero_le _, Nat.zero_le _⟩) (fun  I3 H locs hpo hH => ?_)
      have hq := hq  I3 hpo
      refine lv_iinc (v := (v2 + (1 : Int32))) (lv' := [(2, .int (v2 + (1 : Int32))), (0, .ref (b + 111)), (1, .int x1)]) hx hb dX6_wordNow_59 hl (k := 2) rfl rfl (by decide) rfl (fun ls hl => ?_)
      refine lv_goto (tgt := 41) hx hb dX6_wordNow_62 (by decide) ?_
      exact hK41 (v2 + (1 : Int32)) _ _ _ _ hq hH (lv_sub hl [1, 2, 0] rfl)
set_option maxRecDepth 100000 in
set_option maxHeartbeats 4000000 in
theorem c_X6_wordNow {l : Launch} {D : va_G} {cs : wC4} {ad : Nat → Nat} {b : Nat} {G : wG} (x1 : Int32) (I : wI) (hp : pre_X6_wordNow x1 I) : Met l yX6_wordNow (ws_ yX6_wordNow cX6_wordNow 3 (some .int)) rm_X6_wordNow (va_Pc [.ref (b + 111), .int x1] (wPr D cs ad b G I)) (va_Qi (fun r I' => post_X6_wordNow x1 I r I') (wPo D cs b G) (fun q => b ≤ q)) 0 0 (fun q => b ≤ q) := by
  have hq := vc_X6_wordNow x1 I hp
  refine w_met (by decide) (Nat.le_of_ble_eq_true rfl) ?_
  intro p e s m below meth c hX hr hlk hK hE hH ls hl
  have C0 : wCx p m c s _ meth cX6_wordNow 3 RX6 (some .int) D cs ad b := ⟨hX, hr, hlk, hK, hE⟩
  have hX : CallFix p m c cX6_wordNow 3 s _ lw_all RX6 := hX
  have hx := hX.1
  have hb := hX.2.1
  have hown := hX.2.2.2.1
  have hts := hX.2.2.2.2
  have hl : lv_has ls 3 [(0, .ref (b + 111)), (1, .int x1)] := hl
  unfold v_X6_wordNow at hq
  refine lv_iload_n hx hb dX6_wordNow_0 rfl (lv_at hl 1 rfl) ?_
  refine lv_if_ne (tgt := 9) hx hb dX6_wordNow_1 (by decide) (fun hc => ?_) (fun hc => ?_)
  · have hq := hq.1 hc
    refine lv_aload_n hx hb dX6_wordNow_9 rfl (lv_at hl 0 rfl) ?_
    obtain ⟨hp, hq⟩ := hq
    refine w_cI hH (w_rV (As := []) (rest := []) hX hK hE hH (c_X6_readWord   _ hp) ck6 sh111 q4_226 q4_228 qs42 q1_7 q4_229 hd_X6_readWord ⟨Nat.le_of_ble_eq_true rfl, Nat.le_of_ble_eq_true rfl⟩ ⟨rfl, rfl⟩ rfl hl.1 rfl (Nat.le_of_ble_eq_true rfl) dX6_wordNow_10 ⟨Nat.zero_le _, Nat.zero_le _⟩) (fun r1 I2 H locs hpo hH => ?_)
    have hq := hq r1 I2 hpo
    refine lv_sipush (v := 500) hx hb dX6_wordNow_13 (by decide) ?_
    refine lv_icmp_le (tgt := 21) hx hb dX6_wordNow_16 (by decide) (fun hc => ?_) (fun hc => ?_)
    · have hq := hq.1 hc
      refine lv_iload_n hx hb dX6_wordNow_21 rfl (lv_at hl 1 rfl) ?_
      refine lv_iconst (v := 4) hx hb dX6_wordNow_22 (by decide) ?_
      refine lv_icmp_ne (tgt := 31) hx hb dX6_wordNow_23 (by decide) (fun hc => ?_) (fun hc => ?_)
      · have hq := hq.1 hc
        refine lv_aload_n hx hb dX6_wordNow_31 rfl (lv_at hl 0 rfl) ?_
        obtain ⟨hp, hq⟩ := hq
        refine w_cV hH (w_rV (As := []) (rest := []) hX hK hE hH (c_X6_putAside   _ hp) ck6 sh111 q5_69 q5_71 qs53 q1_7 q5_72 hd_X6_putAside ⟨Nat.le_of_ble_eq_true rfl, Nat.le_of_ble_eq_true rfl⟩ ⟨rfl, rfl⟩ rfl hl.1 rfl (Nat.le_of_ble_eq_true rfl) dX6_wordNow_32 ⟨Nat.zero_le _, Nat.zero_le _⟩) (fun  I3 H locs hpo hH => ?_)
        have hq := hq  I3 hpo
        refine lv_aload_n hx hb dX6_wordNow_35 rfl (lv_at hl 0 rfl) ?_
        obtain ⟨hp, hq⟩ := hq
        refine w_cV hH (w_rV (As := []) (rest := []) hX hK hE hH (c_X6_toFirst   _ hp) ck6 sh111 q5_6 q5_8 qs46 q1_7 q5_9 hd_X6_toFirst ⟨Nat.le_of_ble_eq_true rfl, Nat.le_of_ble_eq_true rfl⟩ ⟨rfl, rfl⟩ rfl hl.1 rfl (Nat.le_of_ble_eq_true rfl) dX6_wordNow_36 ⟨Nat.zero_le _, Nat.zero_le _⟩) (fun  I4 H locs hpo hH => ?_)
        have hq := hq  I4 hpo
        refine lv_iconst (v := 0) hx hb dX6_wordNow_39 (by decide) ?_
        refine lv_istore_n (lv' := [(2, .int (0 : Int32)), (0, .ref (b + 111)), (1, .int x1)]) hx hb dX6_wordNow_40 rfl hl (by decide) rfl (fun ls hl => ?_)
        obtain ⟨f, hq⟩ := hq
        exact s_X6_wordNow_41  C0  f (0 : Int32) _ _ _ _ hq hH (lv_sub hl [1, 2, 0] rfl)
      · have hq := hq.2 hc
        refine lv_aload_n hx hb dX6_wordNow_26 rfl (lv_at hl 0 rfl) ?_
        refine w_geti hX hK hH ck6 sh111 12 fi6_12 q4_85 dX6_wordNow_27 ?_
        exact w_eI hX hr hlk hH hq dX6_wordNow_30
    · have hq := hq.2 hc
      refine lv_iconst (v := -1) hx hb dX6_wordNow_19 (by decide) ?_
      exact w_eI hX hr hlk hH hq dX6_wordNow_20
  · have hq := hq.2 hc
    refine lv_aload_n hx hb dX6_wordNow_4 rfl (lv_at hl 0 rfl) ?_
    obtain ⟨hp, hq⟩ := hq
    refine w_cI hH (w_rV (As := []) (rest := []) hX hK hE hH (c_X6_countTurns   _ hp) ck6 sh111 q5_104 q5_106 qs59 q1_7 q5_107 hd_X6_countTurns ⟨Nat.le_of_ble_eq_true rfl, Nat.le_of_ble_eq_true rfl⟩ ⟨rfl, rfl⟩ rfl hl.1 rfl (Nat.le_of_ble_eq_true rfl) dX6_wordNow_5 ⟨Nat.zero_le _, Nat.zero_le _⟩) (fun r5 I6 H locs hpo hH => ?_)
    have hq := hq r5 I6 hpo
    exact w_eI hX hr hlk hH hq dX6_wordNow_8
abbrev rm_X6_ofWord : Room := { frames := 4, cells := 0, slots := 0, locals := 94 }
theorem hd_X6_ofWord : yX6_ofWord.cls = RX6 ∧ yX6_ofWord.cls ≠ "java/lang/invoke/MethodHandle" ∧ yX6_ofWord.cls ≠ "java/lang/invoke/VarHandle" ∧ (parseMethodDescriptor yX6_ofWord.desc).map (fun d => d.parameters.length) = some 1 := by decide +kernel
set_option maxRecDepth 100000 in
set_option maxHeartbeats 4000000 in
theorem s_X6_ofWord_41 {x1 : Int32} {Q : Int32 → wI → Prop} (C0 : wCx p m c s args meth cX6_ofWord 2 RX6 (some .int) D cs ad b) : ∀ (t0 : Int32) (I : wI) (H : Heap) (locs : List Loc) (ls : Array Slot), v_X6_ofWord_41 x1 Q t0 I → wH D cs b G I s H locs → lv_has ls 2 [] → W p l e rm_X6_ofWord s m args below meth c H locs 0 0 (MQ below (va_Qi (Q) (wPo D cs b G) (fun q => b ≤ q)) args s 0 0 (fun q => b ≤ q)) (F0 m 41 ls [.int t0]) := by
  obtain ⟨hX, hr, hlk, hK, hE⟩ := id C0
  have hx := hX.1
  have hb := hX.2.1
  have hown := hX.2.2.2.1
  have hts := hX.2.2.2.2
  intro t0 I H locs ls hq hH hl
  unfold v_X6_ofWord_41 at hq
  exact w_eI hX hr hlk hH hq dX6_ofWord_41
set_option maxRecDepth 100000 in
set_option maxHeartbeats 4000000 in
theorem s_X6_ofWord_22 {x1 : Int32} {Q : Int32 → wI → Prop} (C0 : wCx p m c s args meth cX6_ofWord 2 RX6 (some .int) D cs ad b) : ∀ (t0 : Int32) (I : wI) (H : Heap) (locs : List Loc) (ls : Array Slot), v_X6_ofWord_22 x1 Q t0 I → wH D cs b G I s H locs → lv_has ls 2 [(0, .ref (b + 111)), (1, .int x1)] → W p l e rm_X6_ofWord s m args below meth c H locs 0 0 (MQ below (va_Qi (Q) (wPo D cs b G) (fun q => b ≤ q)) args s 0 0 (fun q => b ≤ q)) (F0 m 22 ls [.int t0, .ref (b + 111)]) := by
  obtain ⟨hX, hr, hlk, hK, hE⟩ := id C0
  have hx := hX.1
  have hb := hX.2.1
  have hown := hX.2.2.2.1
  have hts := hX.2.2.2.2
  intro t0 I H locs ls hq hH hl
  unfold v_X6_ofWord_22 at hq
  refine w_puti hX hK hH ck6 sh111 0 fw6_0 q4_73 dX6_ofWord_22 (fun I1 H locs hI hH => ?_)
  have hq := hq I1 hI
  refine lv_aload_n hx hb dX6_ofWord_25 rfl (lv_at hl 0 rfl) ?_
  refine w_geti hX hK hH ck6 sh111 0 fi6_0 q4_73 dX6_ofWord_26 ?_
  refine lv_if_le (tgt := 36) hx hb dX6_ofWord_29 (by decide) (fun hc => ?_) (fun hc => ?_)
  · have hq := hq.1 hc
    refine lv_aload_n hx hb dX6_ofWord_36 rfl (lv_at hl 0 rfl) ?_
    refine lv_iload_n hx hb dX6_ofWord_37 rfl (lv_at hl 1 rfl) ?_
    obtain ⟨hp, hq⟩ := hq
    refine w_cI hH (w_rV (As := [.int x1]) (rest := []) hX hK hE hH (c_X6_wordNow  _ _ hp) ck6 sh111 q5_100 q5_102 qs58 q1_7 q5_103 hd_X6_wordNow ⟨Nat.le_of_ble_eq_true rfl, Nat.le_of_ble_eq_true rfl⟩ ⟨rfl, rfl⟩ rfl hl.1 rfl (Nat.le_of_ble_eq_true rfl) dX6_ofWord_38 ⟨Nat.zero_le _, Nat.zero_le _⟩) (fun r2 I3 H locs hpo hH => ?_)
    have hq := hq r2 I3 hpo
    exact s_X6_ofWord_41  C0  r2 _ _ _ _ hq hH (lv_sub hl [] rfl)
  · have hq := hq.2 hc
    refine lv_iconst (v := 0) hx hb dX6_ofWord_32 (by decide) ?_
    refine lv_goto (tgt := 41) hx hb dX6_ofWord_33 (by decide) ?_
    exact s_X6_ofWord_41  C0  (0 : Int32) _ _ _ _ hq hH (lv_sub hl [] rfl)
set_option maxRecDepth 100000 in
set_option maxHeartbeats 4000000 in
theorem s_X6_ofWord_21 {x1 : Int32} {Q : Int32 → wI → Prop} (C0 : wCx p m c s args meth cX6_ofWord 2 RX6 (some .int) D cs ad b) : ∀  (I : wI) (H : Heap) (locs : List Loc) (ls : Array Slot), v_X6_ofWord_21 x1 Q  I → wH D cs b G I s H locs → lv_has ls 2 [(0, .ref (b + 111)), (1, .int x1)] → W p l e rm_X6_ofWord s m args below meth c H locs 0 0 (MQ below (va_Qi (Q) (wPo D cs b G) (fun q => b ≤ q)) args s 0 0 (fun q => b ≤ q)) (F0 m 21 ls [.ref (b + 111)]) := by
  obtain ⟨hX, hr, hlk, hK, hE⟩ := id C0
  have hx := hX.1
  have hb := hX.2.1
  have hown := hX.2.2.2.1
  have hts := hX.2.2.2.2
  intro  I H locs ls hq hH hl
  unfold v_X6_ofWord_21 at hq
  refine lv_iconst (v := 1) hx hb dX6_ofWord_21 (by decide) ?_
  exact s_X6_ofWord_22  C0  (1 : Int32) _ _ _ _ hq hH (lv_sub hl [0, 1] rfl)
set_option maxRecDepth 100000 in
set_option maxHeartbeats 4000000 in
theorem c_X6_ofWord {l : Launch} {D : va_G} {cs : wC4} {ad : Nat → Nat} {b : Nat} {G : wG} (x1 : Int32) (I : wI) (hp : pre_X6_ofWord x1 I) : Met l yX6_ofWord (ws_ yX6_ofWord cX6_ofWord 2 (some .int)) rm_X6_ofWord (va_Pc [.ref (b + 111), .int x1] (wPr D cs ad b G I)) (va_Qi (fun r I' => post_X6_ofWord x1 I r I') (wPo D cs b G) (fun q => b ≤ q)) 0 0 (fun q => b ≤ q) := by
  have hq := vc_X6_ofWord x1 I hp
  refine w_met (by decide) (Nat.le_of_ble_eq_true rfl) ?_
  intro p e s m below meth c hX hr hlk hK hE hH ls hl
  have C0 : wCx p m c s _ meth cX6_ofWord 2 RX6 (some .int) D cs ad b := ⟨hX, hr, hlk, hK, hE⟩
  have hX : CallFix p m c cX6_ofWord 2 s _ lw_all RX6 := hX
  have hx := hX.1
  have hb := hX.2.1
  have hown := hX.2.2.2.1
  have hts := hX.2.2.2.2
  have hl : lv_has ls 2 [(0, .ref (b + 111)), (1, .int x1)] := hl
  unfold v_X6_ofWord at hq
  refine lv_aload_n hx hb dX6_ofWord_0 rfl (lv_at hl 0 rfl) ?_
  refine lv_iload_n hx hb dX6_ofWord_1 rfl (lv_at hl 1 rfl) ?_
  refine lv_iconst (v := 0) hx hb dX6_ofWord_2 (by decide) ?_
  refine lv_iconst (v := 4) hx hb dX6_ofWord_3 (by decide) ?_
  obtain ⟨hp, hq⟩ := hq
  refine w_cIp hH (w_rS (As := [.int x1, .int (0 : Int32), .int (4 : Int32)]) (rest := [.ref (b + 111)]) hX hK hE hH (c_X6_in  _ _ _ _ hp) q4_168 q4_169 q1_7 q4_170 hd_X6_in.2 ⟨Nat.le_of_ble_eq_true rfl, Nat.le_of_ble_eq_true rfl⟩ ⟨rfl, rfl⟩ rfl hl.1 rfl (Nat.le_of_ble_eq_true rfl) dX6_ofWord_4 ⟨Nat.zero_le _, Nat.zero_le _⟩) (fun r1  H locs hpo hH => ?_)
  have hq := hq r1  hpo
  refine lv_if_eq (tgt := 21) hx hb dX6_ofWord_7 (by decide) (fun hc => ?_) (fun hc => ?_)
  · have hq := hq.1 hc
    exact s_X6_ofWord_21  C0   _ _ _ _ hq hH (lv_sub hl [0, 1] rfl)
  · have hq := hq.2 hc
    refine lv_aload_n hx hb dX6_ofWord_10 rfl (lv_at hl 0 rfl) ?_
    obtain ⟨hp, hq⟩ := hq
    refine w_cI hH (w_rV (As := []) (rest := [.ref (b + 111)]) hX hK hE hH (c_X6_isWhole   _ hp) ck6 sh111 q4_214 q4_216 qs39 q1_7 q4_217 hd_X6_isWhole ⟨Nat.le_of_ble_eq_true rfl, Nat.le_of_ble_eq_true rfl⟩ ⟨rfl, rfl⟩ rfl hl.1 rfl (Nat.le_of_ble_eq_true rfl) dX6_ofWord_11 ⟨Nat.zero_le _, Nat.zero_le _⟩) (fun r2 I3 H locs hpo hH => ?_)
    have hq := hq r2 I3 hpo
    refine lv_if_eq (tgt := 21) hx hb dX6_ofWord_14 (by decide) (fun hc => ?_) (fun hc => ?_)
    · have hq := hq.1 hc
      exact s_X6_ofWord_21  C0   _ _ _ _ hq hH (lv_sub hl [0, 1] rfl)
    · have hq := hq.2 hc
      refine lv_iconst (v := 0) hx hb dX6_ofWord_17 (by decide) ?_
      refine lv_goto (tgt := 22) hx hb dX6_ofWord_18 (by decide) ?_
      exact s_X6_ofWord_22  C0  (0 : Int32) _ _ _ _ hq hH (lv_sub hl [0, 1] rfl)
abbrev rm_X6_stuckPlaces : Room := { frames := 0, cells := 0, slots := 0, locals := 0 }
theorem hd_X6_stuckPlaces : yX6_stuckPlaces.cls = RX6 ∧ yX6_stuckPlaces.cls ≠ "java/lang/invoke/MethodHandle" ∧ yX6_stuckPlaces.cls ≠ "java/lang/invoke/VarHandle" ∧ (parseMethodDescriptor yX6_stuckPlaces.desc).map (fun d => d.parameters.length) = some 0 := by decide +kernel
set_option maxRecDepth 100000 in
set_option maxHeartbeats 4000000 in
theorem s_X6_stuckPlaces_4 {I : wI} {Q : Int32 → Prop} (C0 : wCx p m c s args meth cX6_stuckPlaces 3 RX6 (some .int) D cs ad b) : ∀ (f : Nat) (v1 : Int32) (v2 : Int32) (H : Heap) (locs : List Loc) (ls : Array Slot), v_X6_stuckPlaces_4 I Q f v1 v2 → wH D cs b G I s H locs → lv_has ls 3 [(0, .ref (b + 111)), (1, .int v1), (2, .int v2)] → W p l e rm_X6_stuckPlaces s m args below meth c H locs 0 0 (MQ below (va_Qi (fun r I' => I' = I ∧ Q r) (wPo D cs b G) (fun q => b ≤ q)) args s 0 0 (fun q => b ≤ q)) (F0 m 4 ls []) := by
  obtain ⟨hX, hr, hlk, hK, hE⟩ := id C0
  have hx := hX.1
  have hb := hX.2.1
  have hown := hX.2.2.2.1
  have hts := hX.2.2.2.2
  intro f
  induction f with
  | zero =>
    intro v1 v2 H locs ls hq
    exact hq.elim
  | succ f hK4 =>
    intro v1 v2 H locs ls hq hH hl
    have hq : g_X6_stuckPlaces_4 I Q (v_X6_stuckPlaces_4 I Q f) v1 v2 := hq
    unfold g_X6_stuckPlaces_4 at hq
    refine lv_iload_n hx hb dX6_stuckPlaces_4 rfl (lv_at hl 2 rfl) ?_
    refine lv_bipush (v := 6) hx hb dX6_stuckPlaces_5 (by decide) ?_
    refine lv_icmp_ge (tgt := 28) hx hb dX6_stuckPlaces_7 (by decide) (fun hc => ?_) (fun hc => ?_)
    · have hq := hq.1 hc
      refine lv_iload_n hx hb dX6_stuckPlaces_28 rfl (lv_at hl 1 rfl) ?_
      exact w_eI hX hr hlk hH ⟨rfl, hq⟩ dX6_stuckPlaces_29
    · have hq := hq.2 hc
      refine lv_iload_n hx hb dX6_stuckPlaces_10 rfl (lv_at hl 1 rfl) ?_
      refine lv_aload_n hx hb dX6_stuckPlaces_11 rfl (lv_at hl 0 rfl) ?_
      refine w_getr hX hK hH ck6 sh111 1 1 112 fr6_1 rfl q4_74 dX6_stuckPlaces_12 ?_
      refine lv_bipush (v := 12) hx hb dX6_stuckPlaces_15 (by decide) ?_
      refine lv_iload_n hx hb dX6_stuckPlaces_17 rfl (lv_at hl 2 rfl) ?_
      refine lv_iadd hx hb dX6_stuckPlaces_18 ?_
      obtain ⟨hc, hq⟩ := hq
      refine w_iald hX hK hH (sf6_1 sh111) hc dX6_stuckPlaces_19 ?_
      refine lv_iadd hx hb dX6_stuckPlaces_20 ?_
      refine lv_istore_n (lv' := [(1, .int (v1 + (I 112 (((12 : Int32) + v2)).toNatClampNeg))), (0, .ref (b + 111)), (2, .int v2)]) hx hb dX6_stuckPlaces_21 rfl hl (by decide) rfl (fun ls hl => ?_)
      refine lv_iinc (v := (v2 + (1 : Int32))) (lv' := [(2, .int (v2 + (1 : Int32))), (1, .int (v1 + (I 112 (((12 : Int32) + v2)).toNatClampNeg))), (0, .ref (b + 111))]) hx hb dX6_stuckPlaces_22 hl (k := 2) rfl rfl (by decide) rfl (fun ls hl => ?_)
      refine lv_goto (tgt := 4) hx hb dX6_stuckPlaces_25 (by decide) ?_
      exact hK4 (v1 + (I 112 (((12 : Int32) + v2)).toNatClampNeg)) (v2 + (1 : Int32)) _ _ _ hq hH (lv_sub hl [2, 1, 0] rfl)
set_option maxRecDepth 100000 in
set_option maxHeartbeats 4000000 in
theorem c_X6_stuckPlaces {l : Launch} {D : va_G} {cs : wC4} {ad : Nat → Nat} {b : Nat} {G : wG}  (I : wI) (hp : pre_X6_stuckPlaces  I) : Met l yX6_stuckPlaces (ws_ yX6_stuckPlaces cX6_stuckPlaces 3 (some .int)) rm_X6_stuckPlaces (va_Pc [.ref (b + 111)] (wPr D cs ad b G I)) (va_Qi (fun r I' => I' = I ∧ post_X6_stuckPlaces  I r) (wPo D cs b G) (fun q => b ≤ q)) 0 0 (fun q => b ≤ q) := by
  have hq := vc_X6_stuckPlaces  I hp
  refine w_met (by decide) (Nat.le_of_ble_eq_true rfl) ?_
  intro p e s m below meth c hX hr hlk hK hE hH ls hl
  have C0 : wCx p m c s _ meth cX6_stuckPlaces 3 RX6 (some .int) D cs ad b := ⟨hX, hr, hlk, hK, hE⟩
  have hX : CallFix p m c cX6_stuckPlaces 3 s _ lw_all RX6 := hX
  have hx := hX.1
  have hb := hX.2.1
  have hown := hX.2.2.2.1
  have hts := hX.2.2.2.2
  have hl : lv_has ls 3 [(0, .ref (b + 111))] := hl
  unfold v_X6_stuckPlaces at hq
  refine lv_iconst (v := 0) hx hb dX6_stuckPlaces_0 (by decide) ?_
  refine lv_istore_n (lv' := [(1, .int (0 : Int32)), (0, .ref (b + 111))]) hx hb dX6_stuckPlaces_1 rfl hl (by decide) rfl (fun ls hl => ?_)
  refine lv_iconst (v := 0) hx hb dX6_stuckPlaces_2 (by decide) ?_
  refine lv_istore_n (lv' := [(2, .int (0 : Int32)), (1, .int (0 : Int32)), (0, .ref (b + 111))]) hx hb dX6_stuckPlaces_3 rfl hl (by decide) rfl (fun ls hl => ?_)
  obtain ⟨f, hq⟩ := hq
  exact s_X6_stuckPlaces_4  C0  f (0 : Int32) (0 : Int32) _ _ _ hq hH (lv_sub hl [2, 1, 0] rfl)
abbrev rm_X6_countNow : Room := { frames := 3, cells := 0, slots := 0, locals := 67 }
theorem hd_X6_countNow : yX6_countNow.cls = RX6 ∧ yX6_countNow.cls ≠ "java/lang/invoke/MethodHandle" ∧ yX6_countNow.cls ≠ "java/lang/invoke/VarHandle" ∧ (parseMethodDescriptor yX6_countNow.desc).map (fun d => d.parameters.length) = some 1 := by decide +kernel
set_option maxRecDepth 100000 in
set_option maxHeartbeats 4000000 in
theorem s_X6_countNow_95 {x1 : Int32} {I : wI} {Q : Int32 → Prop} (C0 : wCx p m c s args meth cX6_countNow 2 RX6 (some .int) D cs ad b) : ∀ (t0 : Int32) (H : Heap) (locs : List Loc) (ls : Array Slot), v_X6_countNow_95 x1 I Q t0 → wH D cs b G I s H locs → lv_has ls 2 [] → W p l e rm_X6_countNow s m args below meth c H locs 0 0 (MQ below (va_Qi (fun r I' => I' = I ∧ Q r) (wPo D cs b G) (fun q => b ≤ q)) args s 0 0 (fun q => b ≤ q)) (F0 m 95 ls [.int t0]) := by
  obtain ⟨hX, hr, hlk, hK, hE⟩ := id C0
  have hx := hX.1
  have hb := hX.2.1
  have hown := hX.2.2.2.1
  have hts := hX.2.2.2.2
  intro t0 H locs ls hq hH hl
  unfold v_X6_countNow_95 at hq
  exact w_eI hX hr hlk hH ⟨rfl, hq⟩ dX6_countNow_95
set_option maxRecDepth 100000 in
set_option maxHeartbeats 4000000 in
theorem c_X6_countNow {l : Launch} {D : va_G} {cs : wC4} {ad : Nat → Nat} {b : Nat} {G : wG} (x1 : Int32) (I : wI) (hp : pre_X6_countNow x1 I) : Met l yX6_countNow (ws_ yX6_countNow cX6_countNow 2 (some .int)) rm_X6_countNow (va_Pc [.ref (b + 111), .int x1] (wPr D cs ad b G I)) (va_Qi (fun r I' => I' = I ∧ post_X6_countNow x1 I r) (wPo D cs b G) (fun q => b ≤ q)) 0 0 (fun q => b ≤ q) := by
  have hq := vc_X6_countNow x1 I hp
  refine w_met (by decide) (Nat.le_of_ble_eq_true rfl) ?_
  intro p e s m below meth c hX hr hlk hK hE hH ls hl
  have C0 : wCx p m c s _ meth cX6_countNow 2 RX6 (some .int) D cs ad b := ⟨hX, hr, hlk, hK, hE⟩
  have hX : CallFix p m c cX6_countNow 2 s _ lw_all RX6 := hX
  have hx := hX.1
  have hb := hX.2.1
  have hown := hX.2.2.2.1
  have hts := hX.2.2.2.2
  have hl : lv_has ls 2 [(0, .ref (b + 111)), (1, .int x1)] := hl
  unfold v_X6_countNow at hq
  refine lv_iload_n hx hb dX6_countNow_0 rfl (lv_at hl 1 rfl) ?_
  by_cases hc0 : x1 = (0 : Int32)
  · have hq := hq.1 hc0
    refine lv_tableIn (tgt := 52) hx hb dX6_countNow_1 (by rw [hc0]; decide) (by rw [hc0]; decide) (by rw [hc0]; rfl) (by decide) ?_
    refine lv_aload_n hx hb dX6_countNow_52 rfl (lv_at hl 0 rfl) ?_
    refine w_getr hX hK hH ck6 sh111 1 1 112 fr6_1 rfl q4_74 dX6_countNow_53 ?_
    refine lv_bipush (v := 33) hx hb dX6_countNow_56 (by decide) ?_
    obtain ⟨hc, hq⟩ := hq
    refine w_iald hX hK hH (sf6_1 sh111) hc dX6_countNow_58 ?_
    exact w_eI hX hr hlk hH ⟨rfl, hq⟩ dX6_countNow_59
  by_cases hc1 : x1 = (1 : Int32)
  · have hq := hq.2.1 hc1
    refine lv_tableIn (tgt := 60) hx hb dX6_countNow_1 (by rw [hc1]; decide) (by rw [hc1]; decide) (by rw [hc1]; rfl) (by decide) ?_
    refine lv_aload_n hx hb dX6_countNow_60 rfl (lv_at hl 0 rfl) ?_
    obtain ⟨hp, hq⟩ := hq
    refine w_cIp hH (w_rV (As := []) (rest := []) hX hK hE hH (c_X6_notches   _ hp) ck6 sh111 q5_29 q5_31 qs48 q1_7 q5_32 hd_X6_notches ⟨Nat.le_of_ble_eq_true rfl, Nat.le_of_ble_eq_true rfl⟩ ⟨rfl, rfl⟩ rfl hl.1 rfl (Nat.le_of_ble_eq_true rfl) dX6_countNow_61 ⟨Nat.zero_le _, Nat.zero_le _⟩) (fun r1  H locs hpo hH => ?_)
    have hq := hq r1  hpo
    refine lv_iconst (v := 5) hx hb dX6_countNow_64 (by decide) ?_
    refine lv_irem hx hb dX6_countNow_65 (by decide) ?_
    exact w_eI hX hr hlk hH ⟨rfl, hq⟩ dX6_countNow_66
  by_cases hc2 : x1 = (2 : Int32)
  · have hq := hq.2.2.1 hc2
    refine lv_tableIn (tgt := 67) hx hb dX6_countNow_1 (by rw [hc2]; decide) (by rw [hc2]; decide) (by rw [hc2]; rfl) (by decide) ?_
    refine lv_aload_n hx hb dX6_countNow_67 rfl (lv_at hl 0 rfl) ?_
    refine w_getr hX hK hH ck6 sh111 1 1 112 fr6_1 rfl q4_74 dX6_countNow_68 ?_
    refine lv_bipush (v := 34) hx hb dX6_countNow_71 (by decide) ?_
    obtain ⟨hc, hq⟩ := hq
    refine w_iald hX hK hH (sf6_1 sh111) hc dX6_countNow_73 ?_
    exact w_eI hX hr hlk hH ⟨rfl, hq⟩ dX6_countNow_74
  by_cases hc3 : x1 = (3 : Int32)
  · have hq := hq.2.2.2.1 hc3
    refine lv_tableIn (tgt := 75) hx hb dX6_countNow_1 (by rw [hc3]; decide) (by rw [hc3]; decide) (by rw [hc3]; rfl) (by decide) ?_
    refine lv_bipush (v := 6) hx hb dX6_countNow_75 (by decide) ?_
    refine lv_aload_n hx hb dX6_countNow_77 rfl (lv_at hl 0 rfl) ?_
    obtain ⟨hp, hq⟩ := hq
    refine w_cIp hH (w_rV (As := []) (rest := [.int (6 : Int32)]) hX hK hE hH (c_X6_away   _ hp) ck6 sh111 q5_2 q5_4 qs45 q1_7 q5_5 hd_X6_away ⟨Nat.le_of_ble_eq_true rfl, Nat.le_of_ble_eq_true rfl⟩ ⟨rfl, rfl⟩ rfl hl.1 rfl (Nat.le_of_ble_eq_true rfl) dX6_countNow_78 ⟨Nat.zero_le _, Nat.zero_le _⟩) (fun r2  H locs hpo hH => ?_)
    have hq := hq r2  hpo
    refine lv_isub hx hb dX6_countNow_81 ?_
    exact w_eI hX hr hlk hH ⟨rfl, hq⟩ dX6_countNow_82
  by_cases hc4 : x1 = (4 : Int32)
  · have hq := hq.2.2.2.2.1 hc4
    refine lv_tableIn (tgt := 83) hx hb dX6_countNow_1 (by rw [hc4]; decide) (by rw [hc4]; decide) (by rw [hc4]; rfl) (by decide) ?_
    refine lv_aload_n hx hb dX6_countNow_83 rfl (lv_at hl 0 rfl) ?_
    obtain ⟨hp, hq⟩ := hq
    refine w_cIp hH (w_rV (As := []) (rest := []) hX hK hE hH (c_X6_opens   _ hp) ck6 sh111 q4_183 q4_185 qs34 q1_7 q4_186 hd_X6_opens ⟨Nat.le_of_ble_eq_true rfl, Nat.le_of_ble_eq_true rfl⟩ ⟨rfl, rfl⟩ rfl hl.1 rfl (Nat.le_of_ble_eq_true rfl) dX6_countNow_84 ⟨Nat.zero_le _, Nat.zero_le _⟩) (fun r3  H locs hpo hH => ?_)
    have hq := hq r3  hpo
    refine lv_if_eq (tgt := 94) hx hb dX6_countNow_87 (by decide) (fun hc => ?_) (fun hc => ?_)
    · have hq := hq.1 hc
      refine lv_iconst (v := 0) hx hb dX6_countNow_94 (by decide) ?_
      exact s_X6_countNow_95  C0  (0 : Int32) _ _ _ hq hH (lv_sub hl [] rfl)
    · have hq := hq.2 hc
      refine lv_iconst (v := 1) hx hb dX6_countNow_90 (by decide) ?_
      refine lv_goto (tgt := 95) hx hb dX6_countNow_91 (by decide) ?_
      exact s_X6_countNow_95  C0  (1 : Int32) _ _ _ hq hH (lv_sub hl [] rfl)
  by_cases hc5 : x1 = (5 : Int32)
  · have hq := hq.2.2.2.2.2.1 hc5
    refine lv_tableIn (tgt := 96) hx hb dX6_countNow_1 (by rw [hc5]; decide) (by rw [hc5]; decide) (by rw [hc5]; rfl) (by decide) ?_
    refine lv_aload_n hx hb dX6_countNow_96 rfl (lv_at hl 0 rfl) ?_
    obtain ⟨hp, hq⟩ := hq
    refine w_cIp hH (w_rV (As := []) (rest := []) hX hK hE hH (c_X6_right   _ hp) ck6 sh111 q4_187 q4_189 qs35 q1_7 q4_190 hd_X6_right ⟨Nat.le_of_ble_eq_true rfl, Nat.le_of_ble_eq_true rfl⟩ ⟨rfl, rfl⟩ rfl hl.1 rfl (Nat.le_of_ble_eq_true rfl) dX6_countNow_97 ⟨Nat.zero_le _, Nat.zero_le _⟩) (fun r4  H locs hpo hH => ?_)
    have hq := hq r4  hpo
    exact w_eI hX hr hlk hH ⟨rfl, hq⟩ dX6_countNow_100
  by_cases hc6 : x1 = (6 : Int32)
  · have hq := hq.2.2.2.2.2.2.1 hc6
    refine lv_tableIn (tgt := 101) hx hb dX6_countNow_1 (by rw [hc6]; decide) (by rw [hc6]; decide) (by rw [hc6]; rfl) (by decide) ?_
    refine lv_aload_n hx hb dX6_countNow_101 rfl (lv_at hl 0 rfl) ?_
    obtain ⟨hp, hq⟩ := hq
    refine w_cIp hH (w_rV (As := []) (rest := []) hX hK hE hH (c_X6_stuckPlaces   _ hp) ck6 sh111 q5_116 q5_118 qs61 q1_7 q5_119 hd_X6_stuckPlaces ⟨Nat.le_of_ble_eq_true rfl, Nat.le_of_ble_eq_true rfl⟩ ⟨rfl, rfl⟩ rfl hl.1 rfl (Nat.le_of_ble_eq_true rfl) dX6_countNow_102 ⟨Nat.zero_le _, Nat.zero_le _⟩) (fun r5  H locs hpo hH => ?_)
    have hq := hq r5  hpo
    exact w_eI hX hr hlk hH ⟨rfl, hq⟩ dX6_countNow_105
  by_cases hc7 : x1 = (7 : Int32)
  · have hq := hq.2.2.2.2.2.2.2.1 hc7
    refine lv_tableIn (tgt := 106) hx hb dX6_countNow_1 (by rw [hc7]; decide) (by rw [hc7]; decide) (by rw [hc7]; rfl) (by decide) ?_
    refine lv_aload_n hx hb dX6_countNow_106 rfl (lv_at hl 0 rfl) ?_
    obtain ⟨hp, hq⟩ := hq
    refine w_cIp hH (w_rV (As := []) (rest := []) hX hK hE hH (c_X6_stuckKeys   _ hp) ck6 sh111 q5_21 q5_23 qs47 q1_7 q5_24 hd_X6_stuckKeys ⟨Nat.le_of_ble_eq_true rfl, Nat.le_of_ble_eq_true rfl⟩ ⟨rfl, rfl⟩ rfl hl.1 rfl (Nat.le_of_ble_eq_true rfl) dX6_countNow_107 ⟨Nat.zero_le _, Nat.zero_le _⟩) (fun r6  H locs hpo hH => ?_)
    have hq := hq r6  hpo
    exact w_eI hX hr hlk hH ⟨rfl, hq⟩ dX6_countNow_110
  by_cases hc8 : x1 = (8 : Int32)
  · have hq := hq.2.2.2.2.2.2.2.2.1 hc8
    refine lv_tableIn (tgt := 111) hx hb dX6_countNow_1 (by rw [hc8]; decide) (by rw [hc8]; decide) (by rw [hc8]; rfl) (by decide) ?_
    refine lv_aload_n hx hb dX6_countNow_111 rfl (lv_at hl 0 rfl) ?_
    refine w_getr hX hK hH ck6 sh111 1 1 112 fr6_1 rfl q4_74 dX6_countNow_112 ?_
    refine lv_bipush (v := 35) hx hb dX6_countNow_115 (by decide) ?_
    obtain ⟨hc, hq⟩ := hq
    refine w_iald hX hK hH (sf6_1 sh111) hc dX6_countNow_117 ?_
    exact w_eI hX hr hlk hH ⟨rfl, hq⟩ dX6_countNow_118
  have hq := hq.2.2.2.2.2.2.2.2.2 ⟨hc0, hc1, hc2, hc3, hc4, hc5, hc6, hc7, hc8⟩
  have he0 := w_toInt_ne hc0
  have he1 := w_toInt_ne hc1
  have he2 := w_toInt_ne hc2
  have he3 := w_toInt_ne hc3
  have he4 := w_toInt_ne hc4
  have he5 := w_toInt_ne hc5
  have he6 := w_toInt_ne hc6
  have he7 := w_toInt_ne hc7
  have he8 := w_toInt_ne hc8
  refine lv_tableOut (tgt := 119) hx hb dX6_countNow_1 (w_swOut0_8 hc0 hc1 hc2 hc3 hc4 hc5 hc6 hc7 hc8) (by decide) ?_
  refine lv_aload_n hx hb dX6_countNow_119 rfl (lv_at hl 0 rfl) ?_
  refine w_geti hX hK hH ck6 sh111 4 fi6_4 q4_77 dX6_countNow_120 ?_
  exact w_eI hX hr hlk hH ⟨rfl, hq⟩ dX6_countNow_123
abbrev rm_X6_count : Room := { frames := 4, cells := 0, slots := 0, locals := 88 }
theorem hd_X6_count : yX6_count.cls = RX6 ∧ yX6_count.cls ≠ "java/lang/invoke/MethodHandle" ∧ yX6_count.cls ≠ "java/lang/invoke/VarHandle" ∧ (parseMethodDescriptor yX6_count.desc).map (fun d => d.parameters.length) = some 1 := by decide +kernel
set_option maxRecDepth 100000 in
set_option maxHeartbeats 4000000 in
theorem s_X6_count_35 {x1 : Int32} {Q : Int32 → wI → Prop} (C0 : wCx p m c s args meth cX6_count 2 RX6 (some .int) D cs ad b) : ∀ (t0 : Int32) (I : wI) (H : Heap) (locs : List Loc) (ls : Array Slot), v_X6_count_35 x1 Q t0 I → wH D cs b G I s H locs → lv_has ls 2 [] → W p l e rm_X6_count s m args below meth c H locs 0 0 (MQ below (va_Qi (Q) (wPo D cs b G) (fun q => b ≤ q)) args s 0 0 (fun q => b ≤ q)) (F0 m 35 ls [.int t0]) := by
  obtain ⟨hX, hr, hlk, hK, hE⟩ := id C0
  have hx := hX.1
  have hb := hX.2.1
  have hown := hX.2.2.2.1
  have hts := hX.2.2.2.2
  intro t0 I H locs ls hq hH hl
  unfold v_X6_count_35 at hq
  exact w_eI hX hr hlk hH hq dX6_count_35
set_option maxRecDepth 100000 in
set_option maxHeartbeats 4000000 in
theorem s_X6_count_16 {x1 : Int32} {Q : Int32 → wI → Prop} (C0 : wCx p m c s args meth cX6_count 2 RX6 (some .int) D cs ad b) : ∀ (t0 : Int32) (I : wI) (H : Heap) (locs : List Loc) (ls : Array Slot), v_X6_count_16 x1 Q t0 I → wH D cs b G I s H locs → lv_has ls 2 [(0, .ref (b + 111)), (1, .int x1)] → W p l e rm_X6_count s m args below meth c H locs 0 0 (MQ below (va_Qi (Q) (wPo D cs b G) (fun q => b ≤ q)) args s 0 0 (fun q => b ≤ q)) (F0 m 16 ls [.int t0, .ref (b + 111)]) := by
  obtain ⟨hX, hr, hlk, hK, hE⟩ := id C0
  have hx := hX.1
  have hb := hX.2.1
  have hown := hX.2.2.2.1
  have hts := hX.2.2.2.2
  intro t0 I H locs ls hq hH hl
  unfold v_X6_count_16 at hq
  refine w_puti hX hK hH ck6 sh111 0 fw6_0 q4_73 dX6_count_16 (fun I1 H locs hI hH => ?_)
  have hq := hq I1 hI
  refine lv_aload_n hx hb dX6_count_19 rfl (lv_at hl 0 rfl) ?_
  refine w_geti hX hK hH ck6 sh111 0 fi6_0 q4_73 dX6_count_20 ?_
  refine lv_if_le (tgt := 30) hx hb dX6_count_23 (by decide) (fun hc => ?_) (fun hc => ?_)
  · have hq := hq.1 hc
    refine lv_aload_n hx hb dX6_count_30 rfl (lv_at hl 0 rfl) ?_
    refine lv_iload_n hx hb dX6_count_31 rfl (lv_at hl 1 rfl) ?_
    obtain ⟨hp, hq⟩ := hq
    refine w_cIp hH (w_rV (As := [.int x1]) (rest := []) hX hK hE hH (c_X6_countNow  _ _ hp) ck6 sh111 q5_112 q5_114 qs60 q1_7 q5_115 hd_X6_countNow ⟨Nat.le_of_ble_eq_true rfl, Nat.le_of_ble_eq_true rfl⟩ ⟨rfl, rfl⟩ rfl hl.1 rfl (Nat.le_of_ble_eq_true rfl) dX6_count_32 ⟨Nat.zero_le _, Nat.zero_le _⟩) (fun r2  H locs hpo hH => ?_)
    have hq := hq r2  hpo
    exact s_X6_count_35  C0  r2 _ _ _ _ hq hH (lv_sub hl [] rfl)
  · have hq := hq.2 hc
    refine lv_iconst (v := 0) hx hb dX6_count_26 (by decide) ?_
    refine lv_goto (tgt := 35) hx hb dX6_count_27 (by decide) ?_
    exact s_X6_count_35  C0  (0 : Int32) _ _ _ _ hq hH (lv_sub hl [] rfl)
set_option maxRecDepth 100000 in
set_option maxHeartbeats 4000000 in
theorem c_X6_count {l : Launch} {D : va_G} {cs : wC4} {ad : Nat → Nat} {b : Nat} {G : wG} (x1 : Int32) (I : wI) (hp : pre_X6_count x1 I) : Met l yX6_count (ws_ yX6_count cX6_count 2 (some .int)) rm_X6_count (va_Pc [.ref (b + 111), .int x1] (wPr D cs ad b G I)) (va_Qi (fun r I' => post_X6_count x1 I r I') (wPo D cs b G) (fun q => b ≤ q)) 0 0 (fun q => b ≤ q) := by
  have hq := vc_X6_count x1 I hp
  refine w_met (by decide) (Nat.le_of_ble_eq_true rfl) ?_
  intro p e s m below meth c hX hr hlk hK hE hH ls hl
  have C0 : wCx p m c s _ meth cX6_count 2 RX6 (some .int) D cs ad b := ⟨hX, hr, hlk, hK, hE⟩
  have hX : CallFix p m c cX6_count 2 s _ lw_all RX6 := hX
  have hx := hX.1
  have hb := hX.2.1
  have hown := hX.2.2.2.1
  have hts := hX.2.2.2.2
  have hl : lv_has ls 2 [(0, .ref (b + 111)), (1, .int x1)] := hl
  unfold v_X6_count at hq
  refine lv_aload_n hx hb dX6_count_0 rfl (lv_at hl 0 rfl) ?_
  refine lv_iload_n hx hb dX6_count_1 rfl (lv_at hl 1 rfl) ?_
  refine lv_iconst (v := 0) hx hb dX6_count_2 (by decide) ?_
  refine lv_bipush (v := 9) hx hb dX6_count_3 (by decide) ?_
  obtain ⟨hp, hq⟩ := hq
  refine w_cIp hH (w_rS (As := [.int x1, .int (0 : Int32), .int (9 : Int32)]) (rest := [.ref (b + 111)]) hX hK hE hH (c_X6_in  _ _ _ _ hp) q4_168 q4_169 q1_7 q4_170 hd_X6_in.2 ⟨Nat.le_of_ble_eq_true rfl, Nat.le_of_ble_eq_true rfl⟩ ⟨rfl, rfl⟩ rfl hl.1 rfl (Nat.le_of_ble_eq_true rfl) dX6_count_5 ⟨Nat.zero_le _, Nat.zero_le _⟩) (fun r1  H locs hpo hH => ?_)
  have hq := hq r1  hpo
  refine lv_if_eq (tgt := 15) hx hb dX6_count_8 (by decide) (fun hc => ?_) (fun hc => ?_)
  · have hq := hq.1 hc
    refine lv_iconst (v := 1) hx hb dX6_count_15 (by decide) ?_
    exact s_X6_count_16  C0  (1 : Int32) _ _ _ _ hq hH (lv_sub hl [0, 1] rfl)
  · have hq := hq.2 hc
    refine lv_iconst (v := 0) hx hb dX6_count_11 (by decide) ?_
    refine lv_goto (tgt := 16) hx hb dX6_count_12 (by decide) ?_
    exact s_X6_count_16  C0  (0 : Int32) _ _ _ _ hq hH (lv_sub hl [0, 1] rfl)
abbrev rm_X6_power : Room := { frames := 0, cells := 0, slots := 0, locals := 0 }
theorem hd_X6_power : yX6_power.cls = RX6 ∧ yX6_power.cls ≠ "java/lang/invoke/MethodHandle" ∧ yX6_power.cls ≠ "java/lang/invoke/VarHandle" ∧ (parseMethodDescriptor yX6_power.desc).map (fun d => d.parameters.length) = some 1 := by decide +kernel
set_option maxRecDepth 100000 in
set_option maxHeartbeats 4000000 in
theorem s_X6_power_4 {x0 : Int32} {I : wI} {Q : Int32 → Prop} (C0 : wCx p m c s args meth cX6_power 3 RX6 (some .int) D cs ad b) : ∀ (f : Nat) (v1 : Int32) (v2 : Int32) (H : Heap) (locs : List Loc) (ls : Array Slot), v_X6_power_4 x0 I Q f v1 v2 → wH D cs b G I s H locs → lv_has ls 3 [(0, .int x0), (1, .int v1), (2, .int v2)] → W p l e rm_X6_power s m args below meth c H locs 0 0 (MQ below (va_Qi (fun r I' => I' = I ∧ Q r) (wPo D cs b G) (fun q => b ≤ q)) args s 0 0 (fun q => b ≤ q)) (F0 m 4 ls []) := by
  obtain ⟨hX, hr, hlk, hK, hE⟩ := id C0
  have hx := hX.1
  have hb := hX.2.1
  have hown := hX.2.2.2.1
  have hts := hX.2.2.2.2
  intro f
  induction f with
  | zero =>
    intro v1 v2 H locs ls hq
    exact hq.elim
  | succ f hK4 =>
    intro v1 v2 H locs ls hq hH hl
    have hq : g_X6_power_4 x0 I Q (v_X6_power_4 x0 I Q f) v1 v2 := hq
    unfold g_X6_power_4 at hq
    refine lv_iload_n hx hb dX6_power_4 rfl (lv_at hl 2 rfl) ?_
    refine lv_iload_n hx hb dX6_power_5 rfl (lv_at hl 0 rfl) ?_
    refine lv_icmp_ge (tgt := 20) hx hb dX6_power_6 (by decide) (fun hc => ?_) (fun hc => ?_)
    · have hq := hq.1 hc
      refine lv_iload_n hx hb dX6_power_20 rfl (lv_at hl 1 rfl) ?_
      exact w_eI hX hr hlk hH ⟨rfl, hq⟩ dX6_power_21
    · have hq := hq.2 hc
      refine lv_iload_n hx hb dX6_power_9 rfl (lv_at hl 1 rfl) ?_
      refine lv_bipush (v := 10) hx hb dX6_power_10 (by decide) ?_
      refine lv_imul hx hb dX6_power_12 ?_
      refine lv_istore_n (lv' := [(1, .int (v1 * (10 : Int32))), (0, .int x0), (2, .int v2)]) hx hb dX6_power_13 rfl hl (by decide) rfl (fun ls hl => ?_)
      refine lv_iinc (v := (v2 + (1 : Int32))) (lv' := [(2, .int (v2 + (1 : Int32))), (1, .int (v1 * (10 : Int32))), (0, .int x0)]) hx hb dX6_power_14 hl (k := 2) rfl rfl (by decide) rfl (fun ls hl => ?_)
      refine lv_goto (tgt := 4) hx hb dX6_power_17 (by decide) ?_
      exact hK4 (v1 * (10 : Int32)) (v2 + (1 : Int32)) _ _ _ hq hH (lv_sub hl [2, 1, 0] rfl)
set_option maxRecDepth 100000 in
set_option maxHeartbeats 4000000 in
theorem c_X6_power {l : Launch} {D : va_G} {cs : wC4} {ad : Nat → Nat} {b : Nat} {G : wG} (x0 : Int32) (I : wI) (hp : pre_X6_power x0 I) : Met l yX6_power (ws_ yX6_power cX6_power 3 (some .int)) rm_X6_power (va_Pc [.int x0] (wPr D cs ad b G I)) (va_Qi (fun r I' => I' = I ∧ post_X6_power x0 I r) (wPo D cs b G) (fun q => b ≤ q)) 0 0 (fun q => b ≤ q) := by
  have hq := vc_X6_power x0 I hp
  refine w_met (by decide) (Nat.le_of_ble_eq_true rfl) ?_
  intro p e s m below meth c hX hr hlk hK hE hH ls hl
  have C0 : wCx p m c s _ meth cX6_power 3 RX6 (some .int) D cs ad b := ⟨hX, hr, hlk, hK, hE⟩
  have hX : CallFix p m c cX6_power 3 s _ lw_all RX6 := hX
  have hx := hX.1
  have hb := hX.2.1
  have hown := hX.2.2.2.1
  have hts := hX.2.2.2.2
  have hl : lv_has ls 3 [(0, .int x0)] := hl
  unfold v_X6_power at hq
  refine lv_iconst (v := 1) hx hb dX6_power_0 (by decide) ?_
  refine lv_istore_n (lv' := [(1, .int (1 : Int32)), (0, .int x0)]) hx hb dX6_power_1 rfl hl (by decide) rfl (fun ls hl => ?_)
  refine lv_iconst (v := 0) hx hb dX6_power_2 (by decide) ?_
  refine lv_istore_n (lv' := [(2, .int (0 : Int32)), (1, .int (1 : Int32)), (0, .int x0)]) hx hb dX6_power_3 rfl hl (by decide) rfl (fun ls hl => ?_)
  obtain ⟨f, hq⟩ := hq
  exact s_X6_power_4  C0  f (1 : Int32) (0 : Int32) _ _ _ hq hH (lv_sub hl [2, 1, 0] rfl)
abbrev rm_X6_opensBy : Room := { frames := 3, cells := 0, slots := 0, locals := 72 }
theorem hd_X6_opensBy : yX6_opensBy.cls = RX6 ∧ yX6_opensBy.cls ≠ "java/lang/invoke/MethodHandle" ∧ yX6_opensBy.cls ≠ "java/lang/invoke/VarHandle" ∧ (parseMethodDescriptor yX6_opensBy.desc).map (fun d => d.parameters.length) = some 2 := by decide +kernel
set_option maxRecDepth 100000 in
set_option maxHeartbeats 4000000 in
theorem s_X6_opensBy_86 {x1 : Int32} {x2 : Int32} {Q : Int32 → wI → Prop} (C0 : wCx p m c s args meth cX6_opensBy 7 RX6 (some .boolean) D cs ad b) : ∀ (t0 : Int32) (I : wI) (H : Heap) (locs : List Loc) (ls : Array Slot), v_X6_opensBy_86 x1 x2 Q t0 I → wH D cs b G I s H locs → lv_has ls 7 [(0, .ref (b + 111))] → W p l e rm_X6_opensBy s m args below meth c H locs 0 0 (MQ below (va_Qi (Q) (wPo D cs b G) (fun q => b ≤ q)) args s 0 0 (fun q => b ≤ q)) (F0 m 86 ls [.int t0]) := by
  obtain ⟨hX, hr, hlk, hK, hE⟩ := id C0
  have hx := hX.1
  have hb := hX.2.1
  have hown := hX.2.2.2.1
  have hts := hX.2.2.2.2
  intro t0 I H locs ls hq hH hl
  unfold v_X6_opensBy_86 at hq
  refine lv_istore (lv' := [(4, .int t0), (0, .ref (b + 111))]) hx hb dX6_opensBy_86 hl (by decide) rfl (fun ls hl => ?_)
  refine lv_aload_n hx hb dX6_opensBy_88 rfl (lv_at hl 1 rfl) ?_
  obtain ⟨hp, hq⟩ := hq
  refine w_cV hH (w_rV (As := []) (rest := []) hX hK hE hH (c_X6_putBack   _ hp) ck6 sh111 q5_80 q5_82 qs55 q1_7 q5_83 hd_X6_putBack ⟨Nat.le_of_ble_eq_true rfl, Nat.le_of_ble_eq_true rfl⟩ ⟨rfl, rfl⟩ rfl hl.1 rfl (Nat.le_of_ble_eq_true rfl) dX6_opensBy_89 ⟨Nat.zero_le _, Nat.zero_le _⟩) (fun  I1 H locs hpo hH => ?_)
  have hq := hq  I1 hpo
  refine lv_iload hx hb dX6_opensBy_92 (lv_at hl 0 rfl) ?_
  obtain ⟨hz, hq⟩ := hq
  exact w_eZ hz hX hr hlk hH hq dX6_opensBy_94
set_option maxRecDepth 100000 in
set_option maxHeartbeats 4000000 in
theorem s_X6_opensBy_85 {x1 : Int32} {x2 : Int32} {Q : Int32 → wI → Prop} (C0 : wCx p m c s args meth cX6_opensBy 7 RX6 (some .boolean) D cs ad b) : ∀  (I : wI) (H : Heap) (locs : List Loc) (ls : Array Slot), v_X6_opensBy_85 x1 x2 Q  I → wH D cs b G I s H locs → lv_has ls 7 [(0, .ref (b + 111))] → W p l e rm_X6_opensBy s m args below meth c H locs 0 0 (MQ below (va_Qi (Q) (wPo D cs b G) (fun q => b ≤ q)) args s 0 0 (fun q => b ≤ q)) (F0 m 85 ls []) := by
  obtain ⟨hX, hr, hlk, hK, hE⟩ := id C0
  have hx := hX.1
  have hb := hX.2.1
  have hown := hX.2.2.2.1
  have hts := hX.2.2.2.2
  intro  I H locs ls hq hH hl
  unfold v_X6_opensBy_85 at hq
  refine lv_iconst (v := 0) hx hb dX6_opensBy_85 (by decide) ?_
  exact s_X6_opensBy_86  C0  (0 : Int32) _ _ _ _ hq hH (lv_sub hl [0] rfl)
set_option maxRecDepth 100000 in
set_option maxHeartbeats 4000000 in
theorem s_X6_opensBy_55 {x1 : Int32} {x2 : Int32} {Q : Int32 → wI → Prop} {K12 : Int32 → Int32 → Int32 → wI → Prop} (C0 : wCx p m c s args meth cX6_opensBy 7 RX6 (some .boolean) D cs ad b) (hK12 : ∀ (v3 : Int32) (v4 : Int32) (v5 : Int32) (I : wI) (H : Heap) (locs : List Loc) (ls : Array Slot), K12 v3 v4 v5 I → wH D cs b G I s H locs → lv_has ls 7 [(0, .ref (b + 111)), (2, .int x2), (3, .int v3), (4, .int v4), (5, .int v5)] → W p l e rm_X6_opensBy s m args below meth c H locs 0 0 (MQ below (va_Qi (Q) (wPo D cs b G) (fun q => b ≤ q)) args s 0 0 (fun q => b ≤ q)) (F0 m 12 ls [])) : ∀ (v3 : Int32) (v5 : Int32) (v6 : Int32) (t0 : Int32) (I : wI) (H : Heap) (locs : List Loc) (ls : Array Slot), v_X6_opensBy_55 x1 x2 Q K12 v3 v5 v6 t0 I → wH D cs b G I s H locs → lv_has ls 7 [(0, .ref (b + 111)), (2, .int x2), (3, .int v3), (5, .int v5), (6, .int v6)] → W p l e rm_X6_opensBy s m args below meth c H locs 0 0 (MQ below (va_Qi (Q) (wPo D cs b G) (fun q => b ≤ q)) args s 0 0 (fun q => b ≤ q)) (F0 m 55 ls [.int t0]) := by
  obtain ⟨hX, hr, hlk, hK, hE⟩ := id C0
  have hx := hX.1
  have hb := hX.2.1
  have hown := hX.2.2.2.1
  have hts := hX.2.2.2.2
  intro v3 v5 v6 t0 I H locs ls hq hH hl
  unfold v_X6_opensBy_55 at hq
  refine lv_istore (lv' := [(4, .int t0), (0, .ref (b + 111)), (2, .int x2), (3, .int v3), (5, .int v5), (6, .int v6)]) hx hb dX6_opensBy_55 hl (by decide) rfl (fun ls hl => ?_)
  refine lv_aload_n hx hb dX6_opensBy_57 rfl (lv_at hl 1 rfl) ?_
  refine lv_iload hx hb dX6_opensBy_58 (lv_at hl 5 rfl) ?_
  obtain ⟨hp, hq⟩ := hq
  refine w_cV hH (w_rV (As := [.int v6]) (rest := []) hX hK hE hH (c_X6_doTurn  _ _ hp) ck6 sh111 q4_195 q4_197 qs37 q1_7 q4_198 hd_X6_doTurn ⟨Nat.le_of_ble_eq_true rfl, Nat.le_of_ble_eq_true rfl⟩ ⟨rfl, rfl⟩ rfl hl.1 rfl (Nat.le_of_ble_eq_true rfl) dX6_opensBy_60 ⟨Nat.zero_le _, Nat.zero_le _⟩) (fun  I1 H locs hpo hH => ?_)
  have hq := hq  I1 hpo
  refine lv_iinc (v := (v5 + (1 : Int32))) (lv' := [(5, .int (v5 + (1 : Int32))), (4, .int t0), (0, .ref (b + 111)), (2, .int x2), (3, .int v3), (6, .int v6)]) hx hb dX6_opensBy_63 hl (k := 4) rfl rfl (by decide) rfl (fun ls hl => ?_)
  refine lv_goto (tgt := 12) hx hb dX6_opensBy_66 (by decide) ?_
  exact hK12 v3 t0 (v5 + (1 : Int32)) _ _ _ _ hq hH (lv_sub hl [2, 3, 4, 1, 0] rfl)
set_option maxRecDepth 100000 in
set_option maxHeartbeats 4000000 in
theorem s_X6_opensBy_54 {x1 : Int32} {x2 : Int32} {Q : Int32 → wI → Prop} {K12 : Int32 → Int32 → Int32 → wI → Prop} (C0 : wCx p m c s args meth cX6_opensBy 7 RX6 (some .boolean) D cs ad b) (hK12 : ∀ (v3 : Int32) (v4 : Int32) (v5 : Int32) (I : wI) (H : Heap) (locs : List Loc) (ls : Array Slot), K12 v3 v4 v5 I → wH D cs b G I s H locs → lv_has ls 7 [(0, .ref (b + 111)), (2, .int x2), (3, .int v3), (4, .int v4), (5, .int v5)] → W p l e rm_X6_opensBy s m args below meth c H locs 0 0 (MQ below (va_Qi (Q) (wPo D cs b G) (fun q => b ≤ q)) args s 0 0 (fun q => b ≤ q)) (F0 m 12 ls [])) : ∀ (v3 : Int32) (v5 : Int32) (v6 : Int32) (I : wI) (H : Heap) (locs : List Loc) (ls : Array Slot), v_X6_opensBy_54 x1 x2 Q K12 v3 v5 v6 I → wH D cs b G I s H locs → lv_has ls 7 [(0, .ref (b + 111)), (2, .int x2), (3, .int v3), (5, .int v5), (6, .int v6)] → W p l e rm_X6_opensBy s m args below meth c H locs 0 0 (MQ below (va_Qi (Q) (wPo D cs b G) (fun q => b ≤ q)) args s 0 0 (fun q => b ≤ q)) (F0 m 54 ls []) := by
  obtain ⟨hX, hr, hlk, hK, hE⟩ := id C0
  have hx := hX.1
  have hb := hX.2.1
  have hown := hX.2.2.2.1
  have hts := hX.2.2.2.2
  intro v3 v5 v6 I H locs ls hq hH hl
  unfold v_X6_opensBy_54 at hq
  refine lv_iconst (v := 0) hx hb dX6_opensBy_54 (by decide) ?_
  exact s_X6_opensBy_55  C0 hK12 v3 v5 v6 (0 : Int32) _ _ _ _ hq hH (lv_sub hl [0, 1, 2, 3, 4] rfl)
set_option maxRecDepth 100000 in
set_option maxHeartbeats 4000000 in
theorem s_X6_opensBy_12 {x1 : Int32} {x2 : Int32} {Q : Int32 → wI → Prop} (C0 : wCx p m c s args meth cX6_opensBy 7 RX6 (some .boolean) D cs ad b) : ∀ (f : Nat) (v3 : Int32) (v4 : Int32) (v5 : Int32) (I : wI) (H : Heap) (locs : List Loc) (ls : Array Slot), v_X6_opensBy_12 x1 x2 Q f v3 v4 v5 I → wH D cs b G I s H locs → lv_has ls 7 [(0, .ref (b + 111)), (2, .int x2), (3, .int v3), (4, .int v4), (5, .int v5)] → W p l e rm_X6_opensBy s m args below meth c H locs 0 0 (MQ below (va_Qi (Q) (wPo D cs b G) (fun q => b ≤ q)) args s 0 0 (fun q => b ≤ q)) (F0 m 12 ls []) := by
  obtain ⟨hX, hr, hlk, hK, hE⟩ := id C0
  have hx := hX.1
  have hb := hX.2.1
  have hown := hX.2.2.2.1
  have hts := hX.2.2.2.2
  intro f
  induction f with
  | zero =>
    intro v3 v4 v5 I H locs ls hq
    exact hq.elim
  | succ f hK12 =>
    intro v3 v4 v5 I H locs ls hq hH hl
    have hq : g_X6_opensBy_12 x1 x2 Q (v_X6_opensBy_12 x1 x2 Q f) v3 v4 v5 I := hq
    unfold g_X6_opensBy_12 at hq
    refine lv_iload hx hb dX6_opensBy_12 (lv_at hl 4 rfl) ?_
    refine lv_iload_n hx hb dX6_opensBy_14 rfl (lv_at hl 1 rfl) ?_
    refine lv_icmp_ge (tgt := 69) hx hb dX6_opensBy_15 (by decide) (fun hc => ?_) (fun hc => ?_)
    · have hq := hq.1 hc
      refine lv_iload hx hb dX6_opensBy_69 (lv_at hl 3 rfl) ?_
      refine lv_if_eq (tgt := 85) hx hb dX6_opensBy_71 (by decide) (fun hc => ?_) (fun hc => ?_)
      · have hq := hq.1 hc
        exact s_X6_opensBy_85  C0   _ _ _ _ hq hH (lv_sub hl [0] rfl)
      · have hq := hq.2 hc
        refine lv_aload_n hx hb dX6_opensBy_74 rfl (lv_at hl 0 rfl) ?_
        obtain ⟨hp, hq⟩ := hq
        refine w_cIp hH (w_rV (As := []) (rest := []) hX hK hE hH (c_X6_opens   _ hp) ck6 sh111 q4_183 q4_185 qs34 q1_7 q4_186 hd_X6_opens ⟨Nat.le_of_ble_eq_true rfl, Nat.le_of_ble_eq_true rfl⟩ ⟨rfl, rfl⟩ rfl hl.1 rfl (Nat.le_of_ble_eq_true rfl) dX6_opensBy_75 ⟨Nat.zero_le _, Nat.zero_le _⟩) (fun r1  H locs hpo hH => ?_)
        have hq := hq r1  hpo
        refine lv_if_eq (tgt := 85) hx hb dX6_opensBy_78 (by decide) (fun hc => ?_) (fun hc => ?_)
        · have hq := hq.1 hc
          exact s_X6_opensBy_85  C0   _ _ _ _ hq hH (lv_sub hl [0] rfl)
        · have hq := hq.2 hc
          refine lv_iconst (v := 1) hx hb dX6_opensBy_81 (by decide) ?_
          refine lv_goto (tgt := 86) hx hb dX6_opensBy_82 (by decide) ?_
          exact s_X6_opensBy_86  C0  (1 : Int32) _ _ _ _ hq hH (lv_sub hl [0] rfl)
    · have hq := hq.2 hc
      refine lv_iload_n hx hb dX6_opensBy_18 rfl (lv_at hl 2 rfl) ?_
      refine lv_iload_n hx hb dX6_opensBy_19 rfl (lv_at hl 1 rfl) ?_
      refine lv_iconst (v := 1) hx hb dX6_opensBy_20 (by decide) ?_
      refine lv_isub hx hb dX6_opensBy_21 ?_
      refine lv_iload hx hb dX6_opensBy_22 (lv_at hl 4 rfl) ?_
      refine lv_isub hx hb dX6_opensBy_24 ?_
      obtain ⟨hp, hq⟩ := hq
      refine w_cIp hH (w_rS (As := [.int ((x2 - (1 : Int32)) - v5)]) (rest := [.int v3]) hX hK hE hH (c_X6_power  _ _ hp) q5_128 q5_129 q1_7 q5_130 hd_X6_power.2 ⟨Nat.le_of_ble_eq_true rfl, Nat.le_of_ble_eq_true rfl⟩ ⟨rfl, rfl⟩ rfl hl.1 rfl (Nat.le_of_ble_eq_true rfl) dX6_opensBy_25 ⟨Nat.zero_le _, Nat.zero_le _⟩) (fun r2  H locs hpo hH => ?_)
      have hq := hq r2  hpo
      obtain ⟨hc, hq⟩ := hq
      refine lv_idiv hx hb dX6_opensBy_28 hc ?_
      refine lv_bipush (v := 10) hx hb dX6_opensBy_29 (by decide) ?_
      refine lv_irem hx hb dX6_opensBy_31 (by decide) ?_
      refine lv_istore (lv' := [(6, .int ((v3 / r2) - (v3 / r2) / (10 : Int32) * (10 : Int32))), (0, .ref (b + 111)), (2, .int x2), (3, .int v3), (4, .int v4), (5, .int v5)]) hx hb dX6_opensBy_32 hl (by decide) rfl (fun ls hl => ?_)
      refine lv_iload hx hb dX6_opensBy_34 (lv_at hl 4 rfl) ?_
      refine lv_if_eq (tgt := 54) hx hb dX6_opensBy_36 (by decide) (fun hc => ?_) (fun hc => ?_)
      · have hq := hq.1 hc
        exact s_X6_opensBy_54  C0 hK12 v3 v5 ((v3 / r2) - (v3 / r2) / (10 : Int32) * (10 : Int32)) _ _ _ _ hq hH (lv_sub hl [1, 2, 3, 5, 0] rfl)
      · have hq := hq.2 hc
        refine lv_aload_n hx hb dX6_opensBy_39 rfl (lv_at hl 1 rfl) ?_
        refine lv_iload hx hb dX6_opensBy_40 (lv_at hl 0 rfl) ?_
        refine lv_iconst (v := 5) hx hb dX6_opensBy_42 (by decide) ?_
        refine lv_irem hx hb dX6_opensBy_43 (by decide) ?_
        obtain ⟨hp, hq⟩ := hq
        refine w_cIp hH (w_rV (As := [.int (((v3 / r2) - (v3 / r2) / (10 : Int32) * (10 : Int32)) - ((v3 / r2) - (v3 / r2) / (10 : Int32) * (10 : Int32)) / (5 : Int32) * (5 : Int32))]) (rest := []) hX hK hE hH (c_X6_isStuck  _ _ hp) ck6 sh111 q4_171 q4_173 qs31 q1_7 q4_174 hd_X6_isStuck ⟨Nat.le_of_ble_eq_true rfl, Nat.le_of_ble_eq_true rfl⟩ ⟨rfl, rfl⟩ rfl hl.1 rfl (Nat.le_of_ble_eq_true rfl) dX6_opensBy_44 ⟨Nat.zero_le _, Nat.zero_le _⟩) (fun r3  H locs hpo hH => ?_)
        have hq := hq r3  hpo
        refine lv_if_ne (tgt := 54) hx hb dX6_opensBy_47 (by decide) (fun hc => ?_) (fun hc => ?_)
        · have hq := hq.1 hc
          exact s_X6_opensBy_54  C0 hK12 v3 v5 ((v3 / r2) - (v3 / r2) / (10 : Int32) * (10 : Int32)) _ _ _ _ hq hH (lv_sub hl [1, 2, 3, 5, 0] rfl)
        · have hq := hq.2 hc
          refine lv_iconst (v := 1) hx hb dX6_opensBy_50 (by decide) ?_
          refine lv_goto (tgt := 55) hx hb dX6_opensBy_51 (by decide) ?_
          exact s_X6_opensBy_55  C0 hK12 v3 v5 ((v3 / r2) - (v3 / r2) / (10 : Int32) * (10 : Int32)) (1 : Int32) _ _ _ _ hq hH (lv_sub hl [1, 2, 3, 5, 0] rfl)
set_option maxRecDepth 100000 in
set_option maxHeartbeats 4000000 in
theorem c_X6_opensBy {l : Launch} {D : va_G} {cs : wC4} {ad : Nat → Nat} {b : Nat} {G : wG} (x1 : Int32) (x2 : Int32) (I : wI) (hp : pre_X6_opensBy x1 x2 I) : Met l yX6_opensBy (ws_ yX6_opensBy cX6_opensBy 7 (some .boolean)) rm_X6_opensBy (va_Pc [.ref (b + 111), .int x1, .int x2] (wPr D cs ad b G I)) (va_Qi (fun r I' => post_X6_opensBy x1 x2 I r I') (wPo D cs b G) (fun q => b ≤ q)) 0 0 (fun q => b ≤ q) := by
  have hq := vc_X6_opensBy x1 x2 I hp
  refine w_met (by decide) (Nat.le_of_ble_eq_true rfl) ?_
  intro p e s m below meth c hX hr hlk hK hE hH ls hl
  have C0 : wCx p m c s _ meth cX6_opensBy 7 RX6 (some .boolean) D cs ad b := ⟨hX, hr, hlk, hK, hE⟩
  have hX : CallFix p m c cX6_opensBy 7 s _ lw_all RX6 := hX
  have hx := hX.1
  have hb := hX.2.1
  have hown := hX.2.2.2.1
  have hts := hX.2.2.2.2
  have hl : lv_has ls 7 [(0, .ref (b + 111)), (1, .int x1), (2, .int x2)] := hl
  unfold v_X6_opensBy at hq
  refine lv_iload_n hx hb dX6_opensBy_0 rfl (lv_at hl 1 rfl) ?_
  refine lv_istore_n (lv' := [(3, .int x1), (0, .ref (b + 111)), (1, .int x1), (2, .int x2)]) hx hb dX6_opensBy_1 rfl hl (by decide) rfl (fun ls hl => ?_)
  refine lv_iconst (v := 1) hx hb dX6_opensBy_2 (by decide) ?_
  refine lv_istore (lv' := [(4, .int (1 : Int32)), (3, .int x1), (0, .ref (b + 111)), (1, .int x1), (2, .int x2)]) hx hb dX6_opensBy_3 hl (by decide) rfl (fun ls hl => ?_)
  refine lv_aload_n hx hb dX6_opensBy_5 rfl (lv_at hl 2 rfl) ?_
  obtain ⟨hp, hq⟩ := hq
  refine w_cV hH (w_rV (As := []) (rest := []) hX hK hE hH (c_X6_putAside   _ hp) ck6 sh111 q5_69 q5_71 qs53 q1_7 q5_72 hd_X6_putAside ⟨Nat.le_of_ble_eq_true rfl, Nat.le_of_ble_eq_true rfl⟩ ⟨rfl, rfl⟩ rfl hl.1 rfl (Nat.le_of_ble_eq_true rfl) dX6_opensBy_6 ⟨Nat.zero_le _, Nat.zero_le _⟩) (fun  I1 H locs hpo hH => ?_)
  have hq := hq  I1 hpo
  refine lv_iconst (v := 0) hx hb dX6_opensBy_9 (by decide) ?_
  refine lv_istore (lv' := [(5, .int (0 : Int32)), (4, .int (1 : Int32)), (3, .int x1), (0, .ref (b + 111)), (1, .int x1), (2, .int x2)]) hx hb dX6_opensBy_10 hl (by decide) rfl (fun ls hl => ?_)
  obtain ⟨f, hq⟩ := hq
  exact s_X6_opensBy_12  C0  f x1 (1 : Int32) (0 : Int32) _ _ _ _ hq hH (lv_sub hl [3, 5, 2, 1, 0] rfl)
abbrev rm_X6_findOpen : Room := { frames := 4, cells := 0, slots := 0, locals := 98 }
theorem hd_X6_findOpen : yX6_findOpen.cls = RX6 ∧ yX6_findOpen.cls ≠ "java/lang/invoke/MethodHandle" ∧ yX6_findOpen.cls ≠ "java/lang/invoke/VarHandle" ∧ (parseMethodDescriptor yX6_findOpen.desc).map (fun d => d.parameters.length) = some 1 := by decide +kernel
set_option maxRecDepth 100000 in
set_option maxHeartbeats 4000000 in
theorem s_X6_findOpen_71 {x1 : Int32} {Q : Int32 → wI → Prop} (C0 : wCx p m c s args meth cX6_findOpen 4 RX6 (some .int) D cs ad b) : ∀ (t0 : Int32) (I : wI) (H : Heap) (locs : List Loc) (ls : Array Slot), v_X6_findOpen_71 x1 Q t0 I → wH D cs b G I s H locs → lv_has ls 4 [] → W p l e rm_X6_findOpen s m args below meth c H locs 0 0 (MQ below (va_Qi (Q) (wPo D cs b G) (fun q => b ≤ q)) args s 0 0 (fun q => b ≤ q)) (F0 m 71 ls [.int t0]) := by
  obtain ⟨hX, hr, hlk, hK, hE⟩ := id C0
  have hx := hX.1
  have hb := hX.2.1
  have hown := hX.2.2.2.1
  have hts := hX.2.2.2.2
  intro t0 I H locs ls hq hH hl
  unfold v_X6_findOpen_71 at hq
  exact w_eI hX hr hlk hH hq dX6_findOpen_71
set_option maxRecDepth 100000 in
set_option maxHeartbeats 4000000 in
theorem s_X6_findOpen_38 {x1 : Int32} {Q : Int32 → wI → Prop} {K31 : Int32 → wI → Prop} (C0 : wCx p m c s args meth cX6_findOpen 4 RX6 (some .int) D cs ad b) (hK31 : ∀ (v2 : Int32) (I : wI) (H : Heap) (locs : List Loc) (ls : Array Slot), K31 v2 I → wH D cs b G I s H locs → lv_has ls 4 [(0, .ref (b + 111)), (1, .int x1), (2, .int v2)] → W p l e rm_X6_findOpen s m args below meth c H locs 0 0 (MQ below (va_Qi (Q) (wPo D cs b G) (fun q => b ≤ q)) args s 0 0 (fun q => b ≤ q)) (F0 m 31 ls [])) : ∀ (f : Nat) (v2 : Int32) (v3 : Int32) (I : wI) (H : Heap) (locs : List Loc) (ls : Array Slot), v_X6_findOpen_38 x1 Q K31 f v2 v3 I → wH D cs b G I s H locs → lv_has ls 4 [(0, .ref (b + 111)), (1, .int x1), (2, .int v2), (3, .int v3)] → W p l e rm_X6_findOpen s m args below meth c H locs 0 0 (MQ below (va_Qi (Q) (wPo D cs b G) (fun q => b ≤ q)) args s 0 0 (fun q => b ≤ q)) (F0 m 38 ls []) := by
  obtain ⟨hX, hr, hlk, hK, hE⟩ := id C0
  have hx := hX.1
  have hb := hX.2.1
  have hown := hX.2.2.2.1
  have hts := hX.2.2.2.2
  intro f
  induction f with
  | zero =>
    intro v2 v3 I H locs ls hq
    exact hq.elim
  | succ f hK38 =>
    intro v2 v3 I H locs ls hq hH hl
    have hq : g_X6_findOpen_38 x1 Q K31 (v_X6_findOpen_38 x1 Q K31 f) v2 v3 I := hq
    unfold g_X6_findOpen_38 at hq
    refine lv_iload_n hx hb dX6_findOpen_38 rfl (lv_at hl 3 rfl) ?_
    refine lv_iload_n hx hb dX6_findOpen_39 rfl (lv_at hl 2 rfl) ?_
    obtain ⟨hp, hq⟩ := hq
    refine w_cIp hH (w_rS (As := [.int v2]) (rest := [.int v3]) hX hK hE hH (c_X6_power  _ _ hp) q5_128 q5_129 q1_7 q5_130 hd_X6_power.2 ⟨Nat.le_of_ble_eq_true rfl, Nat.le_of_ble_eq_true rfl⟩ ⟨rfl, rfl⟩ rfl hl.1 rfl (Nat.le_of_ble_eq_true rfl) dX6_findOpen_40 ⟨Nat.zero_le _, Nat.zero_le _⟩) (fun r1  H locs hpo hH => ?_)
    have hq := hq r1  hpo
    refine lv_icmp_ge (tgt := 78) hx hb dX6_findOpen_43 (by decide) (fun hc => ?_) (fun hc => ?_)
    · have hq := hq.1 hc
      refine lv_iinc (v := (v2 + (1 : Int32))) (lv' := [(2, .int (v2 + (1 : Int32))), (0, .ref (b + 111)), (1, .int x1), (3, .int v3)]) hx hb dX6_findOpen_78 hl (k := 2) rfl rfl (by decide) rfl (fun ls hl => ?_)
      refine lv_goto (tgt := 31) hx hb dX6_findOpen_81 (by decide) ?_
      exact hK31 (v2 + (1 : Int32)) _ _ _ _ hq hH (lv_sub hl [1, 2, 0] rfl)
    · have hq := hq.2 hc
      refine lv_aload_n hx hb dX6_findOpen_46 rfl (lv_at hl 0 rfl) ?_
      refine lv_iload_n hx hb dX6_findOpen_47 rfl (lv_at hl 3 rfl) ?_
      refine lv_iload_n hx hb dX6_findOpen_48 rfl (lv_at hl 2 rfl) ?_
      obtain ⟨hp, hq⟩ := hq
      refine w_cI hH (w_rV (As := [.int v3, .int v2]) (rest := []) hX hK hE hH (c_X6_opensBy  _ _ _ hp) ck6 sh111 q5_131 q5_133 qs63 q1_7 q5_134 hd_X6_opensBy ⟨Nat.le_of_ble_eq_true rfl, Nat.le_of_ble_eq_true rfl⟩ ⟨rfl, rfl⟩ rfl hl.1 rfl (Nat.le_of_ble_eq_true rfl) dX6_findOpen_49 ⟨Nat.zero_le _, Nat.zero_le _⟩) (fun r2 I3 H locs hpo hH => ?_)
      have hq := hq r2 I3 hpo
      refine lv_if_eq (tgt := 72) hx hb dX6_findOpen_52 (by decide) (fun hc => ?_) (fun hc => ?_)
      · have hq := hq.1 hc
        refine lv_iinc (v := (v3 + (1 : Int32))) (lv' := [(3, .int (v3 + (1 : Int32))), (0, .ref (b + 111)), (1, .int x1), (2, .int v2)]) hx hb dX6_findOpen_72 hl (k := 3) rfl rfl (by decide) rfl (fun ls hl => ?_)
        refine lv_goto (tgt := 38) hx hb dX6_findOpen_75 (by decide) ?_
        exact hK38 v2 (v3 + (1 : Int32)) _ _ _ _ hq hH (lv_sub hl [1, 2, 3, 0] rfl)
      · have hq := hq.2 hc
        refine lv_iload_n hx hb dX6_findOpen_55 rfl (lv_at hl 1 rfl) ?_
        refine lv_if_ne (tgt := 63) hx hb dX6_findOpen_56 (by decide) (fun hc => ?_) (fun hc => ?_)
        · have hq := hq.1 hc
          refine lv_iload_n hx hb dX6_findOpen_63 rfl (lv_at hl 3 rfl) ?_
          refine lv_iload_n hx hb dX6_findOpen_64 rfl (lv_at hl 2 rfl) ?_
          refine lv_iconst (v := 1) hx hb dX6_findOpen_65 (by decide) ?_
          refine lv_isub hx hb dX6_findOpen_66 ?_
          obtain ⟨hp, hq⟩ := hq
          refine w_cIp hH (w_rS (As := [.int (v2 - (1 : Int32))]) (rest := [.int v3]) hX hK hE hH (c_X6_power  _ _ hp) q5_128 q5_129 q1_7 q5_130 hd_X6_power.2 ⟨Nat.le_of_ble_eq_true rfl, Nat.le_of_ble_eq_true rfl⟩ ⟨rfl, rfl⟩ rfl hl.1 rfl (Nat.le_of_ble_eq_true rfl) dX6_findOpen_67 ⟨Nat.zero_le _, Nat.zero_le _⟩) (fun r4  H locs hpo hH => ?_)
          have hq := hq r4  hpo
          obtain ⟨hc, hq⟩ := hq
          refine lv_idiv hx hb dX6_findOpen_70 hc ?_
          exact s_X6_findOpen_71  C0  (v3 / r4) _ _ _ _ hq hH (lv_sub hl [] rfl)
        · have hq := hq.2 hc
          refine lv_iload_n hx hb dX6_findOpen_59 rfl (lv_at hl 2 rfl) ?_
          refine lv_goto (tgt := 71) hx hb dX6_findOpen_60 (by decide) ?_
          exact s_X6_findOpen_71  C0  v2 _ _ _ _ hq hH (lv_sub hl [] rfl)
set_option maxRecDepth 100000 in
set_option maxHeartbeats 4000000 in
theorem s_X6_findOpen_31 {x1 : Int32} {Q : Int32 → wI → Prop} (C0 : wCx p m c s args meth cX6_findOpen 4 RX6 (some .int) D cs ad b) : ∀ (f : Nat) (v2 : Int32) (I : wI) (H : Heap) (locs : List Loc) (ls : Array Slot), v_X6_findOpen_31 x1 Q f v2 I → wH D cs b G I s H locs → lv_has ls 4 [(0, .ref (b + 111)), (1, .int x1), (2, .int v2)] → W p l e rm_X6_findOpen s m args below meth c H locs 0 0 (MQ below (va_Qi (Q) (wPo D cs b G) (fun q => b ≤ q)) args s 0 0 (fun q => b ≤ q)) (F0 m 31 ls []) := by
  obtain ⟨hX, hr, hlk, hK, hE⟩ := id C0
  have hx := hX.1
  have hb := hX.2.1
  have hown := hX.2.2.2.1
  have hts := hX.2.2.2.2
  intro f
  induction f with
  | zero =>
    intro v2 I H locs ls hq
    exact hq.elim
  | succ f hK31 =>
    intro v2 I H locs ls hq hH hl
    have hq : g_X6_findOpen_31 x1 Q (v_X6_findOpen_31 x1 Q f) v2 I := hq
    unfold g_X6_findOpen_31 at hq
    refine lv_iload_n hx hb dX6_findOpen_31 rfl (lv_at hl 2 rfl) ?_
    refine lv_iconst (v := 4) hx hb dX6_findOpen_32 (by decide) ?_
    refine lv_icmp_gt (tgt := 84) hx hb dX6_findOpen_33 (by decide) (fun hc => ?_) (fun hc => ?_)
    · have hq := hq.1 hc
      refine lv_iconst (v := -1) hx hb dX6_findOpen_84 (by decide) ?_
      exact w_eI hX hr hlk hH hq dX6_findOpen_85
    · have hq := hq.2 hc
      refine lv_iconst (v := 0) hx hb dX6_findOpen_36 (by decide) ?_
      refine lv_istore_n (lv' := [(3, .int (0 : Int32)), (0, .ref (b + 111)), (1, .int x1), (2, .int v2)]) hx hb dX6_findOpen_37 rfl hl (by decide) rfl (fun ls hl => ?_)
      obtain ⟨f, hq⟩ := hq
      exact s_X6_findOpen_38  C0 hK31 f v2 (0 : Int32) _ _ _ _ hq hH (lv_sub hl [1, 2, 3, 0] rfl)
set_option maxRecDepth 100000 in
set_option maxHeartbeats 4000000 in
theorem s_X6_findOpen_28 {x1 : Int32} {Q : Int32 → wI → Prop} (C0 : wCx p m c s args meth cX6_findOpen 4 RX6 (some .int) D cs ad b) : ∀ (t0 : Int32) (I : wI) (H : Heap) (locs : List Loc) (ls : Array Slot), v_X6_findOpen_28 x1 Q t0 I → wH D cs b G I s H locs → lv_has ls 4 [] → W p l e rm_X6_findOpen s m args below meth c H locs 0 0 (MQ below (va_Qi (Q) (wPo D cs b G) (fun q => b ≤ q)) args s 0 0 (fun q => b ≤ q)) (F0 m 28 ls [.int t0]) := by
  obtain ⟨hX, hr, hlk, hK, hE⟩ := id C0
  have hx := hX.1
  have hb := hX.2.1
  have hown := hX.2.2.2.1
  have hts := hX.2.2.2.2
  intro t0 I H locs ls hq hH hl
  unfold v_X6_findOpen_28 at hq
  exact w_eI hX hr hlk hH hq dX6_findOpen_28
set_option maxRecDepth 100000 in
set_option maxHeartbeats 4000000 in
theorem c_X6_findOpen {l : Launch} {D : va_G} {cs : wC4} {ad : Nat → Nat} {b : Nat} {G : wG} (x1 : Int32) (I : wI) (hp : pre_X6_findOpen x1 I) : Met l yX6_findOpen (ws_ yX6_findOpen cX6_findOpen 4 (some .int)) rm_X6_findOpen (va_Pc [.ref (b + 111), .int x1] (wPr D cs ad b G I)) (va_Qi (fun r I' => post_X6_findOpen x1 I r I') (wPo D cs b G) (fun q => b ≤ q)) 0 0 (fun q => b ≤ q) := by
  have hq := vc_X6_findOpen x1 I hp
  refine w_met (by decide) (Nat.le_of_ble_eq_true rfl) ?_
  intro p e s m below meth c hX hr hlk hK hE hH ls hl
  have C0 : wCx p m c s _ meth cX6_findOpen 4 RX6 (some .int) D cs ad b := ⟨hX, hr, hlk, hK, hE⟩
  have hX : CallFix p m c cX6_findOpen 4 s _ lw_all RX6 := hX
  have hx := hX.1
  have hb := hX.2.1
  have hown := hX.2.2.2.1
  have hts := hX.2.2.2.2
  have hl : lv_has ls 4 [(0, .ref (b + 111)), (1, .int x1)] := hl
  unfold v_X6_findOpen at hq
  refine lv_aload_n hx hb dX6_findOpen_0 rfl (lv_at hl 0 rfl) ?_
  refine w_getr hX hK hH ck6 sh111 1 1 112 fr6_1 rfl q4_74 dX6_findOpen_1 ?_
  refine lv_bipush (v := 36) hx hb dX6_findOpen_4 (by decide) ?_
  obtain ⟨hc, hq⟩ := hq
  refine w_iald hX hK hH (sf6_1 sh111) hc dX6_findOpen_6 ?_
  refine lv_if_ne (tgt := 12) hx hb dX6_findOpen_7 (by decide) (fun hc => ?_) (fun hc => ?_)
  · have hq := hq.1 hc
    refine lv_aload_n hx hb dX6_findOpen_12 rfl (lv_at hl 0 rfl) ?_
    obtain ⟨hp, hq⟩ := hq
    refine w_cIp hH (w_rV (As := []) (rest := []) hX hK hE hH (c_X6_opens   _ hp) ck6 sh111 q4_183 q4_185 qs34 q1_7 q4_186 hd_X6_opens ⟨Nat.le_of_ble_eq_true rfl, Nat.le_of_ble_eq_true rfl⟩ ⟨rfl, rfl⟩ rfl hl.1 rfl (Nat.le_of_ble_eq_true rfl) dX6_findOpen_13 ⟨Nat.zero_le _, Nat.zero_le _⟩) (fun r1  H locs hpo hH => ?_)
    have hq := hq r1  hpo
    refine lv_if_eq (tgt := 29) hx hb dX6_findOpen_16 (by decide) (fun hc => ?_) (fun hc => ?_)
    · have hq := hq.1 hc
      refine lv_iconst (v := 1) hx hb dX6_findOpen_29 (by decide) ?_
      refine lv_istore_n (lv' := [(2, .int (1 : Int32)), (0, .ref (b + 111)), (1, .int x1)]) hx hb dX6_findOpen_30 rfl hl (by decide) rfl (fun ls hl => ?_)
      obtain ⟨f, hq⟩ := hq
      exact s_X6_findOpen_31  C0  f (1 : Int32) _ _ _ _ hq hH (lv_sub hl [1, 2, 0] rfl)
    · have hq := hq.2 hc
      refine lv_iload_n hx hb dX6_findOpen_19 rfl (lv_at hl 1 rfl) ?_
      refine lv_if_ne (tgt := 27) hx hb dX6_findOpen_20 (by decide) (fun hc => ?_) (fun hc => ?_)
      · have hq := hq.1 hc
        refine lv_iconst (v := -1) hx hb dX6_findOpen_27 (by decide) ?_
        exact s_X6_findOpen_28  C0  (-1 : Int32) _ _ _ _ hq hH (lv_sub hl [] rfl)
      · have hq := hq.2 hc
        refine lv_iconst (v := 0) hx hb dX6_findOpen_23 (by decide) ?_
        refine lv_goto (tgt := 28) hx hb dX6_findOpen_24 (by decide) ?_
        exact s_X6_findOpen_28  C0  (0 : Int32) _ _ _ _ hq hH (lv_sub hl [] rfl)
  · have hq := hq.2 hc
    refine lv_iconst (v := -1) hx hb dX6_findOpen_10 (by decide) ?_
    exact w_eI hX hr hlk hH hq dX6_findOpen_11
abbrev rm_X6_openIn : Room := { frames := 5, cells := 0, slots := 0, locals := 121 }
theorem hd_X6_openIn : yX6_openIn.cls = RX6 ∧ yX6_openIn.cls ≠ "java/lang/invoke/MethodHandle" ∧ yX6_openIn.cls ≠ "java/lang/invoke/VarHandle" ∧ (parseMethodDescriptor yX6_openIn.desc).map (fun d => d.parameters.length) = some 1 := by decide +kernel
set_option maxRecDepth 100000 in
set_option maxHeartbeats 4000000 in
theorem s_X6_openIn_34 {x1 : Int32} {Q : Int32 → wI → Prop} (C0 : wCx p m c s args meth cX6_openIn 2 RX6 (some .int) D cs ad b) : ∀ (t0 : Int32) (I : wI) (H : Heap) (locs : List Loc) (ls : Array Slot), v_X6_openIn_34 x1 Q t0 I → wH D cs b G I s H locs → lv_has ls 2 [] → W p l e rm_X6_openIn s m args below meth c H locs 0 0 (MQ below (va_Qi (Q) (wPo D cs b G) (fun q => b ≤ q)) args s 0 0 (fun q => b ≤ q)) (F0 m 34 ls [.int t0]) := by
  obtain ⟨hX, hr, hlk, hK, hE⟩ := id C0
  have hx := hX.1
  have hb := hX.2.1
  have hown := hX.2.2.2.1
  have hts := hX.2.2.2.2
  intro t0 I H locs ls hq hH hl
  unfold v_X6_openIn_34 at hq
  exact w_eI hX hr hlk hH hq dX6_openIn_34
set_option maxRecDepth 100000 in
set_option maxHeartbeats 4000000 in
theorem s_X6_openIn_15 {x1 : Int32} {Q : Int32 → wI → Prop} (C0 : wCx p m c s args meth cX6_openIn 2 RX6 (some .int) D cs ad b) : ∀ (t0 : Int32) (I : wI) (H : Heap) (locs : List Loc) (ls : Array Slot), v_X6_openIn_15 x1 Q t0 I → wH D cs b G I s H locs → lv_has ls 2 [(0, .ref (b + 111)), (1, .int x1)] → W p l e rm_X6_openIn s m args below meth c H locs 0 0 (MQ below (va_Qi (Q) (wPo D cs b G) (fun q => b ≤ q)) args s 0 0 (fun q => b ≤ q)) (F0 m 15 ls [.int t0, .ref (b + 111)]) := by
  obtain ⟨hX, hr, hlk, hK, hE⟩ := id C0
  have hx := hX.1
  have hb := hX.2.1
  have hown := hX.2.2.2.1
  have hts := hX.2.2.2.2
  intro t0 I H locs ls hq hH hl
  unfold v_X6_openIn_15 at hq
  refine w_puti hX hK hH ck6 sh111 0 fw6_0 q4_73 dX6_openIn_15 (fun I1 H locs hI hH => ?_)
  have hq := hq I1 hI
  refine lv_aload_n hx hb dX6_openIn_18 rfl (lv_at hl 0 rfl) ?_
  refine w_geti hX hK hH ck6 sh111 0 fi6_0 q4_73 dX6_openIn_19 ?_
  refine lv_if_le (tgt := 29) hx hb dX6_openIn_22 (by decide) (fun hc => ?_) (fun hc => ?_)
  · have hq := hq.1 hc
    refine lv_aload_n hx hb dX6_openIn_29 rfl (lv_at hl 0 rfl) ?_
    refine lv_iload_n hx hb dX6_openIn_30 rfl (lv_at hl 1 rfl) ?_
    obtain ⟨hp, hq⟩ := hq
    refine w_cI hH (w_rV (As := [.int x1]) (rest := []) hX hK hE hH (c_X6_findOpen  _ _ hp) ck6 sh111 q5_124 q5_126 qs62 q1_7 q5_127 hd_X6_findOpen ⟨Nat.le_of_ble_eq_true rfl, Nat.le_of_ble_eq_true rfl⟩ ⟨rfl, rfl⟩ rfl hl.1 rfl (Nat.le_of_ble_eq_true rfl) dX6_openIn_31 ⟨Nat.zero_le _, Nat.zero_le _⟩) (fun r2 I3 H locs hpo hH => ?_)
    have hq := hq r2 I3 hpo
    exact s_X6_openIn_34  C0  r2 _ _ _ _ hq hH (lv_sub hl [] rfl)
  · have hq := hq.2 hc
    refine lv_iconst (v := 0) hx hb dX6_openIn_25 (by decide) ?_
    refine lv_goto (tgt := 34) hx hb dX6_openIn_26 (by decide) ?_
    exact s_X6_openIn_34  C0  (0 : Int32) _ _ _ _ hq hH (lv_sub hl [] rfl)
set_option maxRecDepth 100000 in
set_option maxHeartbeats 4000000 in
theorem c_X6_openIn {l : Launch} {D : va_G} {cs : wC4} {ad : Nat → Nat} {b : Nat} {G : wG} (x1 : Int32) (I : wI) (hp : pre_X6_openIn x1 I) : Met l yX6_openIn (ws_ yX6_openIn cX6_openIn 2 (some .int)) rm_X6_openIn (va_Pc [.ref (b + 111), .int x1] (wPr D cs ad b G I)) (va_Qi (fun r I' => post_X6_openIn x1 I r I') (wPo D cs b G) (fun q => b ≤ q)) 0 0 (fun q => b ≤ q) := by
  have hq := vc_X6_openIn x1 I hp
  refine w_met (by decide) (Nat.le_of_ble_eq_true rfl) ?_
  intro p e s m below meth c hX hr hlk hK hE hH ls hl
  have C0 : wCx p m c s _ meth cX6_openIn 2 RX6 (some .int) D cs ad b := ⟨hX, hr, hlk, hK, hE⟩
  have hX : CallFix p m c cX6_openIn 2 s _ lw_all RX6 := hX
  have hx := hX.1
  have hb := hX.2.1
  have hown := hX.2.2.2.1
  have hts := hX.2.2.2.2
  have hl : lv_has ls 2 [(0, .ref (b + 111)), (1, .int x1)] := hl
  unfold v_X6_openIn at hq
  refine lv_aload_n hx hb dX6_openIn_0 rfl (lv_at hl 0 rfl) ?_
  refine lv_iload_n hx hb dX6_openIn_1 rfl (lv_at hl 1 rfl) ?_
  refine lv_iconst (v := 0) hx hb dX6_openIn_2 (by decide) ?_
  refine lv_iconst (v := 1) hx hb dX6_openIn_3 (by decide) ?_
  obtain ⟨hp, hq⟩ := hq
  refine w_cIp hH (w_rS (As := [.int x1, .int (0 : Int32), .int (1 : Int32)]) (rest := [.ref (b + 111)]) hX hK hE hH (c_X6_in  _ _ _ _ hp) q4_168 q4_169 q1_7 q4_170 hd_X6_in.2 ⟨Nat.le_of_ble_eq_true rfl, Nat.le_of_ble_eq_true rfl⟩ ⟨rfl, rfl⟩ rfl hl.1 rfl (Nat.le_of_ble_eq_true rfl) dX6_openIn_4 ⟨Nat.zero_le _, Nat.zero_le _⟩) (fun r1  H locs hpo hH => ?_)
  have hq := hq r1  hpo
  refine lv_if_eq (tgt := 14) hx hb dX6_openIn_7 (by decide) (fun hc => ?_) (fun hc => ?_)
  · have hq := hq.1 hc
    refine lv_iconst (v := 1) hx hb dX6_openIn_14 (by decide) ?_
    exact s_X6_openIn_15  C0  (1 : Int32) _ _ _ _ hq hH (lv_sub hl [0, 1] rfl)
  · have hq := hq.2 hc
    refine lv_iconst (v := 0) hx hb dX6_openIn_10 (by decide) ?_
    refine lv_goto (tgt := 15) hx hb dX6_openIn_11 (by decide) ?_
    exact s_X6_openIn_15  C0  (0 : Int32) _ _ _ _ hq hH (lv_sub hl [0, 1] rfl)
abbrev rm_X6_rightIf : Room := { frames := 3, cells := 0, slots := 0, locals := 72 }
theorem hd_X6_rightIf : yX6_rightIf.cls = RX6 ∧ yX6_rightIf.cls ≠ "java/lang/invoke/MethodHandle" ∧ yX6_rightIf.cls ≠ "java/lang/invoke/VarHandle" ∧ (parseMethodDescriptor yX6_rightIf.desc).map (fun d => d.parameters.length) = some 2 := by decide +kernel
set_option maxRecDepth 100000 in
set_option maxHeartbeats 4000000 in
theorem c_X6_rightIf {l : Launch} {D : va_G} {cs : wC4} {ad : Nat → Nat} {b : Nat} {G : wG} (x1 : Int32) (x2 : Int32) (I : wI) (hp : pre_X6_rightIf x1 x2 I) : Met l yX6_rightIf (ws_ yX6_rightIf cX6_rightIf 4 (some .int)) rm_X6_rightIf (va_Pc [.ref (b + 111), .int x1, .int x2] (wPr D cs ad b G I)) (va_Qi (fun r I' => post_X6_rightIf x1 x2 I r I') (wPo D cs b G) (fun q => b ≤ q)) 0 0 (fun q => b ≤ q) := by
  have hq := vc_X6_rightIf x1 x2 I hp
  refine w_met (by decide) (Nat.le_of_ble_eq_true rfl) ?_
  intro p e s m below meth c hX hr hlk hK hE hH ls hl
  have C0 : wCx p m c s _ meth cX6_rightIf 4 RX6 (some .int) D cs ad b := ⟨hX, hr, hlk, hK, hE⟩
  have hX : CallFix p m c cX6_rightIf 4 s _ lw_all RX6 := hX
  have hx := hX.1
  have hb := hX.2.1
  have hown := hX.2.2.2.1
  have hts := hX.2.2.2.2
  have hl : lv_has ls 4 [(0, .ref (b + 111)), (1, .int x1), (2, .int x2)] := hl
  unfold v_X6_rightIf at hq
  refine lv_aload_n hx hb dX6_rightIf_0 rfl (lv_at hl 0 rfl) ?_
  obtain ⟨hp, hq⟩ := hq
  refine w_cV hH (w_rV (As := []) (rest := []) hX hK hE hH (c_X6_putAside   _ hp) ck6 sh111 q5_69 q5_71 qs53 q1_7 q5_72 hd_X6_putAside ⟨Nat.le_of_ble_eq_true rfl, Nat.le_of_ble_eq_true rfl⟩ ⟨rfl, rfl⟩ rfl hl.1 rfl (Nat.le_of_ble_eq_true rfl) dX6_rightIf_1 ⟨Nat.zero_le _, Nat.zero_le _⟩) (fun  I1 H locs hpo hH => ?_)
  have hq := hq  I1 hpo
  refine lv_aload_n hx hb dX6_rightIf_4 rfl (lv_at hl 0 rfl) ?_
  refine lv_iconst (v := 5) hx hb dX6_rightIf_5 (by decide) ?_
  refine lv_iload_n hx hb dX6_rightIf_6 rfl (lv_at hl 2 rfl) ?_
  refine lv_imul hx hb dX6_rightIf_7 ?_
  refine lv_iload_n hx hb dX6_rightIf_8 rfl (lv_at hl 1 rfl) ?_
  refine lv_iadd hx hb dX6_rightIf_9 ?_
  obtain ⟨hp, hq⟩ := hq
  refine w_cV hH (w_rV (As := [.int (((5 : Int32) * x2) + x1)]) (rest := []) hX hK hE hH (c_X6_doTurn  _ _ hp) ck6 sh111 q4_195 q4_197 qs37 q1_7 q4_198 hd_X6_doTurn ⟨Nat.le_of_ble_eq_true rfl, Nat.le_of_ble_eq_true rfl⟩ ⟨rfl, rfl⟩ rfl hl.1 rfl (Nat.le_of_ble_eq_true rfl) dX6_rightIf_10 ⟨Nat.zero_le _, Nat.zero_le _⟩) (fun  I2 H locs hpo hH => ?_)
  have hq := hq  I2 hpo
  refine lv_aload_n hx hb dX6_rightIf_13 rfl (lv_at hl 0 rfl) ?_
  obtain ⟨hp, hq⟩ := hq
  refine w_cIp hH (w_rV (As := []) (rest := []) hX hK hE hH (c_X6_right   _ hp) ck6 sh111 q4_187 q4_189 qs35 q1_7 q4_190 hd_X6_right ⟨Nat.le_of_ble_eq_true rfl, Nat.le_of_ble_eq_true rfl⟩ ⟨rfl, rfl⟩ rfl hl.1 rfl (Nat.le_of_ble_eq_true rfl) dX6_rightIf_14 ⟨Nat.zero_le _, Nat.zero_le _⟩) (fun r3  H locs hpo hH => ?_)
  have hq := hq r3  hpo
  refine lv_istore_n (lv' := [(3, .int r3), (0, .ref (b + 111)), (1, .int x1), (2, .int x2)]) hx hb dX6_rightIf_17 rfl hl (by decide) rfl (fun ls hl => ?_)
  refine lv_aload_n hx hb dX6_rightIf_18 rfl (lv_at hl 1 rfl) ?_
  obtain ⟨hp, hq⟩ := hq
  refine w_cV hH (w_rV (As := []) (rest := []) hX hK hE hH (c_X6_putBack   _ hp) ck6 sh111 q5_80 q5_82 qs55 q1_7 q5_83 hd_X6_putBack ⟨Nat.le_of_ble_eq_true rfl, Nat.le_of_ble_eq_true rfl⟩ ⟨rfl, rfl⟩ rfl hl.1 rfl (Nat.le_of_ble_eq_true rfl) dX6_rightIf_19 ⟨Nat.zero_le _, Nat.zero_le _⟩) (fun  I4 H locs hpo hH => ?_)
  have hq := hq  I4 hpo
  refine lv_iload_n hx hb dX6_rightIf_22 rfl (lv_at hl 0 rfl) ?_
  exact w_eI hX hr hlk hH hq dX6_rightIf_23
end
