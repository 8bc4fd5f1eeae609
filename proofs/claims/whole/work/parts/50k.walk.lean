section
variable {p : Program} {l : Launch} {e : Env} {s : State} {m : MethodId} {args : Array Value} {below : List Frame} {meth : Method} {c : Code} {D : va_G} {cs : wC4} {ad : Nat → Nat} {b : Nat} {G : wG}
abbrev rm_X6_countTurn : Room := { frames := 3, cells := 0, slots := 0, locals := 72 }
theorem hd_X6_countTurn : yX6_countTurn.cls = RX6 ∧ yX6_countTurn.cls ≠ "java/lang/invoke/MethodHandle" ∧ yX6_countTurn.cls ≠ "java/lang/invoke/VarHandle" ∧ (parseMethodDescriptor yX6_countTurn.desc).map (fun d => d.parameters.length) = some 1 := by decide +kernel
set_option maxRecDepth 100000 in
set_option maxHeartbeats 4000000 in
theorem s_X6_countTurn_117 {x1 : Int32} {Q : wI → Prop} (C0 : wCx p m c s args meth cX6_countTurn 5 RX6 none D cs ad b) : ∀ (t0 : Int32) (t1 : Int32) (t2 : Int32) (I : wI) (H : Heap) (locs : List Loc) (ls : Array Slot), v_X6_countTurn_117 x1 Q t0 t1 t2 I → wH D cs b G I s H locs → lv_has ls 5 [] → W p l e rm_X6_countTurn s m args below meth c H locs 0 0 (MQ below (va_Qv (Q) (wPo D cs b G) (fun q => b ≤ q)) args s 0 0 (fun q => b ≤ q)) (F0 m 117 ls [.int t0, .int t1, .int t2, .ref (b + 112)]) := by
  obtain ⟨hX, hr, hlk, hK, hE⟩ := id C0
  have hx := hX.1
  have hb := hX.2.1
  have hown := hX.2.2.2.1
  have hts := hX.2.2.2.2
  intro t0 t1 t2 I H locs ls hq hH hl
  unfold v_X6_countTurn_117 at hq
  refine lv_iadd hx hb dX6_countTurn_117 ?_
  obtain ⟨hc, hq⟩ := hq
  refine w_iast hX hK hH (sf6_1 sh111) hc dX6_countTurn_118 (fun I1 H locs hI hH => ?_)
  have hq := hq I1 hI
  exact w_eV hX hr hlk hH hq dX6_countTurn_119
set_option maxRecDepth 100000 in
set_option maxHeartbeats 4000000 in
theorem s_X6_countTurn_116 {x1 : Int32} {Q : wI → Prop} (C0 : wCx p m c s args meth cX6_countTurn 5 RX6 none D cs ad b) : ∀ (t0 : Int32) (t1 : Int32) (I : wI) (H : Heap) (locs : List Loc) (ls : Array Slot), v_X6_countTurn_116 x1 Q t0 t1 I → wH D cs b G I s H locs → lv_has ls 5 [] → W p l e rm_X6_countTurn s m args below meth c H locs 0 0 (MQ below (va_Qv (Q) (wPo D cs b G) (fun q => b ≤ q)) args s 0 0 (fun q => b ≤ q)) (F0 m 116 ls [.int t0, .int t1, .ref (b + 112)]) := by
  obtain ⟨hX, hr, hlk, hK, hE⟩ := id C0
  have hx := hX.1
  have hb := hX.2.1
  have hown := hX.2.2.2.1
  have hts := hX.2.2.2.2
  intro t0 t1 I H locs ls hq hH hl
  unfold v_X6_countTurn_116 at hq
  refine lv_iconst (v := 0) hx hb dX6_countTurn_116 (by decide) ?_
  exact s_X6_countTurn_117  C0  (0 : Int32) t0 t1 _ _ _ _ hq hH (lv_sub hl [] rfl)
set_option maxRecDepth 100000 in
set_option maxHeartbeats 4000000 in
theorem s_X6_countTurn_89 {x1 : Int32} {Q : wI → Prop} (C0 : wCx p m c s args meth cX6_countTurn 5 RX6 none D cs ad b) : ∀ (v3 : Int32) (t0 : Int32) (t1 : Int32) (t2 : Int32) (I : wI) (H : Heap) (locs : List Loc) (ls : Array Slot), v_X6_countTurn_89 x1 Q v3 t0 t1 t2 I → wH D cs b G I s H locs → lv_has ls 5 [(0, .ref (b + 111)), (3, .int v3)] → W p l e rm_X6_countTurn s m args below meth c H locs 0 0 (MQ below (va_Qv (Q) (wPo D cs b G) (fun q => b ≤ q)) args s 0 0 (fun q => b ≤ q)) (F0 m 89 ls [.int t0, .int t1, .int t2, .ref (b + 112)]) := by
  obtain ⟨hX, hr, hlk, hK, hE⟩ := id C0
  have hx := hX.1
  have hb := hX.2.1
  have hown := hX.2.2.2.1
  have hts := hX.2.2.2.2
  intro v3 t0 t1 t2 I H locs ls hq hH hl
  unfold v_X6_countTurn_89 at hq
  refine lv_iadd hx hb dX6_countTurn_89 ?_
  refine lv_iconst (v := 5) hx hb dX6_countTurn_90 (by decide) ?_
  refine lv_irem hx hb dX6_countTurn_91 (by decide) ?_
  obtain ⟨hc, hq⟩ := hq
  refine w_iast hX hK hH (sf6_1 sh111) hc dX6_countTurn_92 (fun I1 H locs hI hH => ?_)
  have hq := hq I1 hI
  refine lv_aload_n hx hb dX6_countTurn_93 rfl (lv_at hl 0 rfl) ?_
  refine w_getr hX hK hH ck6 sh111 1 1 112 fr6_1 rfl q4_74 dX6_countTurn_94 ?_
  refine lv_bipush (v := 35) hx hb dX6_countTurn_97 (by decide) ?_
  refine lv_dup2_11 hx hb dX6_countTurn_99 rfl rfl ?_
  obtain ⟨hc, hq⟩ := hq
  refine w_iald hX hK hH (sf6_1 sh111) hc dX6_countTurn_100 ?_
  refine lv_iload_n hx hb dX6_countTurn_101 rfl (lv_at hl 1 rfl) ?_
  refine lv_if_ne (tgt := 116) hx hb dX6_countTurn_102 (by decide) (fun hc => ?_) (fun hc => ?_)
  · have hq := hq.1 hc
    exact s_X6_countTurn_116  C0  (I1 112 ((35 : Int32)).toNatClampNeg) (35 : Int32) _ _ _ _ hq hH (lv_sub hl [] rfl)
  · have hq := hq.2 hc
    refine lv_aload_n hx hb dX6_countTurn_105 rfl (lv_at hl 0 rfl) ?_
    obtain ⟨hp, hq⟩ := hq
    refine w_cIp hH (w_rV (As := []) (rest := [.int (I1 112 ((35 : Int32)).toNatClampNeg), .int (35 : Int32), .ref (b + 112)]) hX hK hE hH (c_X6_opens   _ hp) ck6 sh111 q4_183 q4_185 qs34 q1_7 q4_186 hd_X6_opens ⟨Nat.le_of_ble_eq_true rfl, Nat.le_of_ble_eq_true rfl⟩ ⟨rfl, rfl⟩ rfl hl.1 rfl (Nat.le_of_ble_eq_true rfl) dX6_countTurn_106 ⟨Nat.zero_le _, Nat.zero_le _⟩) (fun r2  H locs hpo hH => ?_)
    have hq := hq r2  hpo
    refine lv_if_eq (tgt := 116) hx hb dX6_countTurn_109 (by decide) (fun hc => ?_) (fun hc => ?_)
    · have hq := hq.1 hc
      exact s_X6_countTurn_116  C0  (I1 112 ((35 : Int32)).toNatClampNeg) (35 : Int32) _ _ _ _ hq hH (lv_sub hl [] rfl)
    · have hq := hq.2 hc
      refine lv_iconst (v := 1) hx hb dX6_countTurn_112 (by decide) ?_
      refine lv_goto (tgt := 117) hx hb dX6_countTurn_113 (by decide) ?_
      exact s_X6_countTurn_117  C0  (1 : Int32) (I1 112 ((35 : Int32)).toNatClampNeg) (35 : Int32) _ _ _ _ hq hH (lv_sub hl [] rfl)
set_option maxRecDepth 100000 in
set_option maxHeartbeats 4000000 in
theorem c_X6_countTurn {l : Launch} {D : va_G} {cs : wC4} {ad : Nat → Nat} {b : Nat} {G : wG} (x1 : Int32) (I : wI) (hp : pre_X6_countTurn x1 I) : Met l yX6_countTurn (ws_ yX6_countTurn cX6_countTurn 5 none) rm_X6_countTurn (va_Pc [.ref (b + 111), .int x1] (wPr D cs ad b G I)) (va_Qv (fun I' => post_X6_countTurn x1 I I') (wPo D cs b G) (fun q => b ≤ q)) 0 0 (fun q => b ≤ q) := by
  have hq := vc_X6_countTurn x1 I hp
  refine w_met (by decide) (Nat.le_of_ble_eq_true rfl) ?_
  intro p e s m below meth c hX hr hlk hK hE hH ls hl
  have C0 : wCx p m c s _ meth cX6_countTurn 5 RX6 none D cs ad b := ⟨hX, hr, hlk, hK, hE⟩
  have hX : CallFix p m c cX6_countTurn 5 s _ lw_all RX6 := hX
  have hx := hX.1
  have hb := hX.2.1
  have hown := hX.2.2.2.1
  have hts := hX.2.2.2.2
  have hl : lv_has ls 5 [(0, .ref (b + 111)), (1, .int x1)] := hl
  unfold v_X6_countTurn at hq
  refine lv_iload_n hx hb dX6_countTurn_0 rfl (lv_at hl 1 rfl) ?_
  refine lv_iconst (v := 5) hx hb dX6_countTurn_1 (by decide) ?_
  refine lv_irem hx hb dX6_countTurn_2 (by decide) ?_
  refine lv_istore_n (lv' := [(2, .int (x1 - x1 / (5 : Int32) * (5 : Int32))), (0, .ref (b + 111)), (1, .int x1)]) hx hb dX6_countTurn_3 rfl hl (by decide) rfl (fun ls hl => ?_)
  refine lv_aload_n hx hb dX6_countTurn_4 rfl (lv_at hl 1 rfl) ?_
  obtain ⟨hp, hq⟩ := hq
  refine w_cIp hH (w_rV (As := []) (rest := []) hX hK hE hH (c_X6_opens   _ hp) ck6 sh111 q4_183 q4_185 qs34 q1_7 q4_186 hd_X6_opens ⟨Nat.le_of_ble_eq_true rfl, Nat.le_of_ble_eq_true rfl⟩ ⟨rfl, rfl⟩ rfl hl.1 rfl (Nat.le_of_ble_eq_true rfl) dX6_countTurn_5 ⟨Nat.zero_le _, Nat.zero_le _⟩) (fun r1  H locs hpo hH => ?_)
  have hq := hq r1  hpo
  refine lv_istore_n (lv' := [(3, .int r1), (2, .int (x1 - x1 / (5 : Int32) * (5 : Int32))), (0, .ref (b + 111)), (1, .int x1)]) hx hb dX6_countTurn_8 rfl hl (by decide) rfl (fun ls hl => ?_)
  refine lv_aload_n hx hb dX6_countTurn_9 rfl (lv_at hl 2 rfl) ?_
  refine lv_iload_n hx hb dX6_countTurn_10 rfl (lv_at hl 3 rfl) ?_
  obtain ⟨hp, hq⟩ := hq
  refine w_cV hH (w_rV (As := [.int x1]) (rest := []) hX hK hE hH (c_X6_doTurn  _ _ hp) ck6 sh111 q4_195 q4_197 qs37 q1_7 q4_198 hd_X6_doTurn ⟨Nat.le_of_ble_eq_true rfl, Nat.le_of_ble_eq_true rfl⟩ ⟨rfl, rfl⟩ rfl hl.1 rfl (Nat.le_of_ble_eq_true rfl) dX6_countTurn_11 ⟨Nat.zero_le _, Nat.zero_le _⟩) (fun  I2 H locs hpo hH => ?_)
  have hq := hq  I2 hpo
  refine lv_aload_n hx hb dX6_countTurn_14 rfl (lv_at hl 2 rfl) ?_
  refine w_getr hX hK hH ck6 sh111 1 1 112 fr6_1 rfl q4_74 dX6_countTurn_15 ?_
  refine lv_bipush (v := 33) hx hb dX6_countTurn_18 (by decide) ?_
  refine lv_dup2_11 hx hb dX6_countTurn_20 rfl rfl ?_
  obtain ⟨hc, hq⟩ := hq
  refine w_iald hX hK hH (sf6_1 sh111) hc dX6_countTurn_21 ?_
  refine lv_iconst (v := 1) hx hb dX6_countTurn_22 (by decide) ?_
  refine lv_iadd hx hb dX6_countTurn_23 ?_
  obtain ⟨hc, hq⟩ := hq
  refine w_iast hX hK hH (sf6_1 sh111) hc dX6_countTurn_24 (fun I3 H locs hI hH => ?_)
  have hq := hq I3 hI
  refine lv_aload_n hx hb dX6_countTurn_25 rfl (lv_at hl 2 rfl) ?_
  refine w_getr hX hK hH ck6 sh111 1 1 112 fr6_1 rfl q4_74 dX6_countTurn_26 ?_
  refine lv_bipush (v := 28) hx hb dX6_countTurn_29 (by decide) ?_
  refine lv_iload_n hx hb dX6_countTurn_31 rfl (lv_at hl 1 rfl) ?_
  refine lv_iadd hx hb dX6_countTurn_32 ?_
  refine lv_dup2_11 hx hb dX6_countTurn_33 rfl rfl ?_
  obtain ⟨hc, hq⟩ := hq
  refine w_iald hX hK hH (sf6_1 sh111) hc dX6_countTurn_34 ?_
  refine lv_iconst (v := 1) hx hb dX6_countTurn_35 (by decide) ?_
  refine lv_iadd hx hb dX6_countTurn_36 ?_
  obtain ⟨hc, hq⟩ := hq
  refine w_iast hX hK hH (sf6_1 sh111) hc dX6_countTurn_37 (fun I4 H locs hI hH => ?_)
  have hq := hq I4 hI
  refine lv_aload_n hx hb dX6_countTurn_38 rfl (lv_at hl 2 rfl) ?_
  refine w_getr hX hK hH ck6 sh111 1 1 112 fr6_1 rfl q4_74 dX6_countTurn_39 ?_
  refine lv_bipush (v := 23) hx hb dX6_countTurn_42 (by decide) ?_
  refine lv_iload_n hx hb dX6_countTurn_44 rfl (lv_at hl 1 rfl) ?_
  refine lv_iadd hx hb dX6_countTurn_45 ?_
  obtain ⟨hc, hq⟩ := hq
  refine w_iald hX hK hH (sf6_1 sh111) hc dX6_countTurn_46 ?_
  refine lv_aload_n hx hb dX6_countTurn_47 rfl (lv_at hl 2 rfl) ?_
  refine w_getr hX hK hH ck6 sh111 1 1 112 fr6_1 rfl q4_74 dX6_countTurn_48 ?_
  refine lv_bipush (v := 18) hx hb dX6_countTurn_51 (by decide) ?_
  refine lv_iload_n hx hb dX6_countTurn_53 rfl (lv_at hl 1 rfl) ?_
  refine lv_iadd hx hb dX6_countTurn_54 ?_
  obtain ⟨hc, hq⟩ := hq
  refine w_iald hX hK hH (sf6_1 sh111) hc dX6_countTurn_55 ?_
  obtain ⟨hp, hq⟩ := hq
  refine w_cIp hH (w_rS (As := [.int (I4 112 (((18 : Int32) + (x1 - x1 / (5 : Int32) * (5 : Int32)))).toNatClampNeg)]) (rest := [.int (I4 112 (((23 : Int32) + (x1 - x1 / (5 : Int32) * (5 : Int32)))).toNatClampNeg)]) hX hK hE hH (c_X6_ones  _ _ hp) q4_203 q4_204 q1_7 q4_205 hd_X6_ones.2 ⟨Nat.le_of_ble_eq_true rfl, Nat.le_of_ble_eq_true rfl⟩ ⟨rfl, rfl⟩ rfl hl.1 rfl (Nat.le_of_ble_eq_true rfl) dX6_countTurn_56 ⟨Nat.zero_le _, Nat.zero_le _⟩) (fun r5  H locs hpo hH => ?_)
  have hq := hq r5  hpo
  refine lv_imul hx hb dX6_countTurn_59 ?_
  refine lv_istore (lv' := [(4, .int ((I4 112 (((23 : Int32) + (x1 - x1 / (5 : Int32) * (5 : Int32)))).toNatClampNeg) * r5)), (3, .int r1), (2, .int (x1 - x1 / (5 : Int32) * (5 : Int32))), (0, .ref (b + 111)), (1, .int x1)]) hx hb dX6_countTurn_60 hl (by decide) rfl (fun ls hl => ?_)
  refine lv_aload_n hx hb dX6_countTurn_62 rfl (lv_at hl 3 rfl) ?_
  refine w_getr hX hK hH ck6 sh111 1 1 112 fr6_1 rfl q4_74 dX6_countTurn_63 ?_
  refine lv_bipush (v := 34) hx hb dX6_countTurn_66 (by decide) ?_
  refine lv_aload_n hx hb dX6_countTurn_68 rfl (lv_at hl 3 rfl) ?_
  refine w_getr hX hK hH ck6 sh111 1 1 112 fr6_1 rfl q4_74 dX6_countTurn_69 ?_
  refine lv_bipush (v := 34) hx hb dX6_countTurn_72 (by decide) ?_
  obtain ⟨hc, hq⟩ := hq
  refine w_iald hX hK hH (sf6_1 sh111) hc dX6_countTurn_74 ?_
  refine lv_iload_n hx hb dX6_countTurn_75 rfl (lv_at hl 4 rfl) ?_
  refine lv_iconst (v := 5) hx hb dX6_countTurn_76 (by decide) ?_
  refine lv_icmp_ge (tgt := 85) hx hb dX6_countTurn_77 (by decide) (fun hc => ?_) (fun hc => ?_)
  · have hq := hq.1 hc
    refine lv_iconst (v := 4) hx hb dX6_countTurn_85 (by decide) ?_
    refine lv_iload hx hb dX6_countTurn_86 (lv_at hl 0 rfl) ?_
    refine lv_imul hx hb dX6_countTurn_88 ?_
    exact s_X6_countTurn_89  C0  r1 ((4 : Int32) * ((I4 112 (((23 : Int32) + (x1 - x1 / (5 : Int32) * (5 : Int32)))).toNatClampNeg) * r5)) (I4 112 ((34 : Int32)).toNatClampNeg) (34 : Int32) _ _ _ _ hq hH (lv_sub hl [3, 1] rfl)
  · have hq := hq.2 hc
    refine lv_iload hx hb dX6_countTurn_80 (lv_at hl 0 rfl) ?_
    refine lv_goto (tgt := 89) hx hb dX6_countTurn_82 (by decide) ?_
    exact s_X6_countTurn_89  C0  r1 ((I4 112 (((23 : Int32) + (x1 - x1 / (5 : Int32) * (5 : Int32)))).toNatClampNeg) * r5) (I4 112 ((34 : Int32)).toNatClampNeg) (34 : Int32) _ _ _ _ hq hH (lv_sub hl [3, 1] rfl)
abbrev rm_X6_turnNow : Room := { frames := 4, cells := 0, slots := 0, locals := 96 }
theorem hd_X6_turnNow : yX6_turnNow.cls = RX6 ∧ yX6_turnNow.cls ≠ "java/lang/invoke/MethodHandle" ∧ yX6_turnNow.cls ≠ "java/lang/invoke/VarHandle" ∧ (parseMethodDescriptor yX6_turnNow.desc).map (fun d => d.parameters.length) = some 2 := by decide +kernel
set_option maxRecDepth 100000 in
set_option maxHeartbeats 4000000 in
theorem s_X6_turnNow_25 {x1 : Int32} {x2 : Int32} {Q : Int32 → wI → Prop} (C0 : wCx p m c s args meth cX6_turnNow 3 RX6 (some .int) D cs ad b) : ∀ (t0 : Int32) (I : wI) (H : Heap) (locs : List Loc) (ls : Array Slot), v_X6_turnNow_25 x1 x2 Q t0 I → wH D cs b G I s H locs → lv_has ls 3 [(0, .ref (b + 111)), (2, .int x2)] → W p l e rm_X6_turnNow s m args below meth c H locs 0 0 (MQ below (va_Qi (Q) (wPo D cs b G) (fun q => b ≤ q)) args s 0 0 (fun q => b ≤ q)) (F0 m 25 ls [.int t0, .ref (b + 111)]) := by
  obtain ⟨hX, hr, hlk, hK, hE⟩ := id C0
  have hx := hX.1
  have hb := hX.2.1
  have hown := hX.2.2.2.1
  have hts := hX.2.2.2.2
  intro t0 I H locs ls hq hH hl
  unfold v_X6_turnNow_25 at hq
  refine w_puti hX hK hH ck6 sh111 0 fw6_0 q4_73 dX6_turnNow_25 (fun I1 H locs hI hH => ?_)
  have hq := hq I1 hI
  refine lv_aload_n hx hb dX6_turnNow_28 rfl (lv_at hl 0 rfl) ?_
  refine w_geti hX hK hH ck6 sh111 0 fi6_0 q4_73 dX6_turnNow_29 ?_
  refine lv_if_le (tgt := 37) hx hb dX6_turnNow_32 (by decide) (fun hc => ?_) (fun hc => ?_)
  · have hq := hq.1 hc
    refine lv_aload_n hx hb dX6_turnNow_37 rfl (lv_at hl 0 rfl) ?_
    obtain ⟨hp, hq⟩ := hq
    refine w_cV hH (w_rV (As := []) (rest := []) hX hK hE hH (c_X6_record   _ hp) ck6 sh111 q4_153 q4_155 qs29 q1_7 q4_156 hd_X6_record ⟨Nat.le_of_ble_eq_true rfl, Nat.le_of_ble_eq_true rfl⟩ ⟨rfl, rfl⟩ rfl hl.1 rfl (Nat.le_of_ble_eq_true rfl) dX6_turnNow_38 ⟨Nat.zero_le _, Nat.zero_le _⟩) (fun  I2 H locs hpo hH => ?_)
    have hq := hq  I2 hpo
    refine lv_aload_n hx hb dX6_turnNow_41 rfl (lv_at hl 0 rfl) ?_
    refine lv_iload_n hx hb dX6_turnNow_42 rfl (lv_at hl 1 rfl) ?_
    obtain ⟨hp, hq⟩ := hq
    refine w_cV hH (w_rV (As := [.int x2]) (rest := []) hX hK hE hH (c_X6_countTurn  _ _ hp) ck6 sh111 q4_179 q4_181 qs33 q1_7 q4_182 hd_X6_countTurn ⟨Nat.le_of_ble_eq_true rfl, Nat.le_of_ble_eq_true rfl⟩ ⟨rfl, rfl⟩ rfl hl.1 rfl (Nat.le_of_ble_eq_true rfl) dX6_turnNow_43 ⟨Nat.zero_le _, Nat.zero_le _⟩) (fun  I3 H locs hpo hH => ?_)
    have hq := hq  I3 hpo
    refine lv_aload_n hx hb dX6_turnNow_46 rfl (lv_at hl 0 rfl) ?_
    obtain ⟨hp, hq⟩ := hq
    refine w_cIp hH (w_rV (As := []) (rest := []) hX hK hE hH (c_X6_right   _ hp) ck6 sh111 q4_187 q4_189 qs35 q1_7 q4_190 hd_X6_right ⟨Nat.le_of_ble_eq_true rfl, Nat.le_of_ble_eq_true rfl⟩ ⟨rfl, rfl⟩ rfl hl.1 rfl (Nat.le_of_ble_eq_true rfl) dX6_turnNow_47 ⟨Nat.zero_le _, Nat.zero_le _⟩) (fun r4  H locs hpo hH => ?_)
    have hq := hq r4  hpo
    exact w_eI hX hr hlk hH hq dX6_turnNow_50
  · have hq := hq.2 hc
    refine lv_iconst (v := 0) hx hb dX6_turnNow_35 (by decide) ?_
    exact w_eI hX hr hlk hH hq dX6_turnNow_36
set_option maxRecDepth 100000 in
set_option maxHeartbeats 4000000 in
theorem c_X6_turnNow {l : Launch} {D : va_G} {cs : wC4} {ad : Nat → Nat} {b : Nat} {G : wG} (x1 : Int32) (x2 : Int32) (I : wI) (hp : pre_X6_turnNow x1 x2 I) : Met l yX6_turnNow (ws_ yX6_turnNow cX6_turnNow 3 (some .int)) rm_X6_turnNow (va_Pc [.ref (b + 111), .int x1, .int x2] (wPr D cs ad b G I)) (va_Qi (fun r I' => post_X6_turnNow x1 x2 I r I') (wPo D cs b G) (fun q => b ≤ q)) 0 0 (fun q => b ≤ q) := by
  have hq := vc_X6_turnNow x1 x2 I hp
  refine w_met (by decide) (Nat.le_of_ble_eq_true rfl) ?_
  intro p e s m below meth c hX hr hlk hK hE hH ls hl
  have C0 : wCx p m c s _ meth cX6_turnNow 3 RX6 (some .int) D cs ad b := ⟨hX, hr, hlk, hK, hE⟩
  have hX : CallFix p m c cX6_turnNow 3 s _ lw_all RX6 := hX
  have hx := hX.1
  have hb := hX.2.1
  have hown := hX.2.2.2.1
  have hts := hX.2.2.2.2
  have hl : lv_has ls 3 [(0, .ref (b + 111)), (1, .int x1), (2, .int x2)] := hl
  unfold v_X6_turnNow at hq
  refine lv_aload_n hx hb dX6_turnNow_0 rfl (lv_at hl 0 rfl) ?_
  refine lv_iload_n hx hb dX6_turnNow_1 rfl (lv_at hl 1 rfl) ?_
  obtain ⟨hp, hq⟩ := hq
  refine w_cIp hH (w_rS (As := [.int x1]) (rest := [.ref (b + 111)]) hX hK hE hH (c_X6_isKey  _ _ hp) q4_165 q4_166 q1_7 q4_167 hd_X6_isKey.2 ⟨Nat.le_of_ble_eq_true rfl, Nat.le_of_ble_eq_true rfl⟩ ⟨rfl, rfl⟩ rfl hl.1 rfl (Nat.le_of_ble_eq_true rfl) dX6_turnNow_2 ⟨Nat.zero_le _, Nat.zero_le _⟩) (fun r1  H locs hpo hH => ?_)
  have hq := hq r1  hpo
  refine lv_if_ne (tgt := 12) hx hb dX6_turnNow_5 (by decide) (fun hc => ?_) (fun hc => ?_)
  · have hq := hq.1 hc
    refine lv_aload_n hx hb dX6_turnNow_12 rfl (lv_at hl 0 rfl) ?_
    refine lv_iload_n hx hb dX6_turnNow_13 rfl (lv_at hl 1 rfl) ?_
    obtain ⟨hp, hq⟩ := hq
    refine w_cIp hH (w_rV (As := [.int x1]) (rest := [.ref (b + 111)]) hX hK hE hH (c_X6_isStuck  _ _ hp) ck6 sh111 q4_171 q4_173 qs31 q1_7 q4_174 hd_X6_isStuck ⟨Nat.le_of_ble_eq_true rfl, Nat.le_of_ble_eq_true rfl⟩ ⟨rfl, rfl⟩ rfl hl.1 rfl (Nat.le_of_ble_eq_true rfl) dX6_turnNow_14 ⟨Nat.zero_le _, Nat.zero_le _⟩) (fun r2  H locs hpo hH => ?_)
    have hq := hq r2  hpo
    refine lv_if_eq (tgt := 24) hx hb dX6_turnNow_17 (by decide) (fun hc => ?_) (fun hc => ?_)
    · have hq := hq.1 hc
      refine lv_iconst (v := 0) hx hb dX6_turnNow_24 (by decide) ?_
      exact s_X6_turnNow_25  C0  (0 : Int32) _ _ _ _ hq hH (lv_sub hl [0, 2] rfl)
    · have hq := hq.2 hc
      refine lv_iconst (v := 2) hx hb dX6_turnNow_20 (by decide) ?_
      refine lv_goto (tgt := 25) hx hb dX6_turnNow_21 (by decide) ?_
      exact s_X6_turnNow_25  C0  (2 : Int32) _ _ _ _ hq hH (lv_sub hl [0, 2] rfl)
  · have hq := hq.2 hc
    refine lv_iconst (v := 1) hx hb dX6_turnNow_8 (by decide) ?_
    refine lv_goto (tgt := 25) hx hb dX6_turnNow_9 (by decide) ?_
    exact s_X6_turnNow_25  C0  (1 : Int32) _ _ _ _ hq hH (lv_sub hl [0, 2] rfl)
abbrev rm_X6_turn : Room := { frames := 5, cells := 0, slots := 0, locals := 118 }
theorem hd_X6_turn : yX6_turn.cls = RX6 ∧ yX6_turn.cls ≠ "java/lang/invoke/MethodHandle" ∧ yX6_turn.cls ≠ "java/lang/invoke/VarHandle" ∧ (parseMethodDescriptor yX6_turn.desc).map (fun d => d.parameters.length) = some 1 := by decide +kernel
set_option maxRecDepth 100000 in
set_option maxHeartbeats 4000000 in
theorem c_X6_turn {l : Launch} {D : va_G} {cs : wC4} {ad : Nat → Nat} {b : Nat} {G : wG} (x1 : Int32) (I : wI) (hp : pre_X6_turn x1 I) : Met l yX6_turn (ws_ yX6_turn cX6_turn 2 (some .int)) rm_X6_turn (va_Pc [.ref (b + 111), .int x1] (wPr D cs ad b G I)) (va_Qi (fun r I' => post_X6_turn x1 I r I') (wPo D cs b G) (fun q => b ≤ q)) 0 0 (fun q => b ≤ q) := by
  have hq := vc_X6_turn x1 I hp
  refine w_met (by decide) (Nat.le_of_ble_eq_true rfl) ?_
  intro p e s m below meth c hX hr hlk hK hE hH ls hl
  have C0 : wCx p m c s _ meth cX6_turn 2 RX6 (some .int) D cs ad b := ⟨hX, hr, hlk, hK, hE⟩
  have hX : CallFix p m c cX6_turn 2 s _ lw_all RX6 := hX
  have hx := hX.1
  have hb := hX.2.1
  have hown := hX.2.2.2.1
  have hts := hX.2.2.2.2
  have hl : lv_has ls 2 [(0, .ref (b + 111)), (1, .int x1)] := hl
  unfold v_X6_turn at hq
  refine lv_aload_n hx hb dX6_turn_0 rfl (lv_at hl 0 rfl) ?_
  refine lv_iload_n hx hb dX6_turn_1 rfl (lv_at hl 1 rfl) ?_
  refine lv_iload_n hx hb dX6_turn_2 rfl (lv_at hl 1 rfl) ?_
  obtain ⟨hp, hq⟩ := hq
  refine w_cI hH (w_rV (As := [.int x1, .int x1]) (rest := []) hX hK hE hH (c_X6_turnNow  _ _ _ hp) ck6 sh111 q4_161 q4_163 qs30 q1_7 q4_164 hd_X6_turnNow ⟨Nat.le_of_ble_eq_true rfl, Nat.le_of_ble_eq_true rfl⟩ ⟨rfl, rfl⟩ rfl hl.1 rfl (Nat.le_of_ble_eq_true rfl) dX6_turn_3 ⟨Nat.zero_le _, Nat.zero_le _⟩) (fun r1 I2 H locs hpo hH => ?_)
  have hq := hq r1 I2 hpo
  exact w_eI hX hr hlk hH hq dX6_turn_6
abbrev rm_X6_back : Room := { frames := 5, cells := 0, slots := 0, locals := 118 }
theorem hd_X6_back : yX6_back.cls = RX6 ∧ yX6_back.cls ≠ "java/lang/invoke/MethodHandle" ∧ yX6_back.cls ≠ "java/lang/invoke/VarHandle" ∧ (parseMethodDescriptor yX6_back.desc).map (fun d => d.parameters.length) = some 1 := by decide +kernel
set_option maxRecDepth 100000 in
set_option maxHeartbeats 4000000 in
theorem c_X6_back {l : Launch} {D : va_G} {cs : wC4} {ad : Nat → Nat} {b : Nat} {G : wG} (x1 : Int32) (I : wI) (hp : pre_X6_back x1 I) : Met l yX6_back (ws_ yX6_back cX6_back 2 (some .int)) rm_X6_back (va_Pc [.ref (b + 111), .int x1] (wPr D cs ad b G I)) (va_Qi (fun r I' => post_X6_back x1 I r I') (wPo D cs b G) (fun q => b ≤ q)) 0 0 (fun q => b ≤ q) := by
  have hq := vc_X6_back x1 I hp
  refine w_met (by decide) (Nat.le_of_ble_eq_true rfl) ?_
  intro p e s m below meth c hX hr hlk hK hE hH ls hl
  have C0 : wCx p m c s _ meth cX6_back 2 RX6 (some .int) D cs ad b := ⟨hX, hr, hlk, hK, hE⟩
  have hX : CallFix p m c cX6_back 2 s _ lw_all RX6 := hX
  have hx := hX.1
  have hb := hX.2.1
  have hown := hX.2.2.2.1
  have hts := hX.2.2.2.2
  have hl : lv_has ls 2 [(0, .ref (b + 111)), (1, .int x1)] := hl
  unfold v_X6_back at hq
  refine lv_aload_n hx hb dX6_back_0 rfl (lv_at hl 0 rfl) ?_
  refine lv_iload_n hx hb dX6_back_1 rfl (lv_at hl 1 rfl) ?_
  refine lv_iconst (v := 5) hx hb dX6_back_2 (by decide) ?_
  refine lv_iload_n hx hb dX6_back_3 rfl (lv_at hl 1 rfl) ?_
  refine lv_iadd hx hb dX6_back_4 ?_
  obtain ⟨hp, hq⟩ := hq
  refine w_cI hH (w_rV (As := [.int x1, .int ((5 : Int32) + x1)]) (rest := []) hX hK hE hH (c_X6_turnNow  _ _ _ hp) ck6 sh111 q4_161 q4_163 qs30 q1_7 q4_164 hd_X6_turnNow ⟨Nat.le_of_ble_eq_true rfl, Nat.le_of_ble_eq_true rfl⟩ ⟨rfl, rfl⟩ rfl hl.1 rfl (Nat.le_of_ble_eq_true rfl) dX6_back_5 ⟨Nat.zero_le _, Nat.zero_le _⟩) (fun r1 I2 H locs hpo hH => ?_)
  have hq := hq r1 I2 hpo
  exact w_eI hX hr hlk hH hq dX6_back_8
abbrev rm_X6_takeSign : Room := { frames := 1, cells := 0, slots := 0, locals := 22 }
theorem hd_X6_takeSign : yX6_takeSign.cls = RX6 ∧ yX6_takeSign.cls ≠ "java/lang/invoke/MethodHandle" ∧ yX6_takeSign.cls ≠ "java/lang/invoke/VarHandle" ∧ (parseMethodDescriptor yX6_takeSign.desc).map (fun d => d.parameters.length) = some 1 := by decide +kernel
set_option maxRecDepth 100000 in
set_option maxHeartbeats 4000000 in
theorem s_X6_takeSign_247 {x1 : Int32} {Q : Int32 → wI → Prop} (C0 : wCx p m c s args meth cX6_takeSign 3 RX6 (some .boolean) D cs ad b) : ∀ (v2 : Int32) (t0 : Int32) (t1 : Int32) (I : wI) (H : Heap) (locs : List Loc) (ls : Array Slot), v_X6_takeSign_247 x1 Q v2 t0 t1 I → wH D cs b G I s H locs → lv_has ls 3 [(2, .int v2)] → W p l e rm_X6_takeSign s m args below meth c H locs 0 0 (MQ below (va_Qi (Q) (wPo D cs b G) (fun q => b ≤ q)) args s 0 0 (fun q => b ≤ q)) (F0 m 247 ls [.int t0, .int t1, .ref (b + 111)]) := by
  obtain ⟨hX, hr, hlk, hK, hE⟩ := id C0
  have hx := hX.1
  have hb := hX.2.1
  have hown := hX.2.2.2.1
  have hts := hX.2.2.2.2
  intro v2 t0 t1 I H locs ls hq hH hl
  unfold v_X6_takeSign_247 at hq
  refine lv_isub hx hb dX6_takeSign_247 ?_
  refine w_puti hX hK hH ck6 sh111 18 fw6_18 q4_91 dX6_takeSign_248 (fun I1 H locs hI hH => ?_)
  have hq := hq I1 hI
  refine lv_iload_n hx hb dX6_takeSign_251 rfl (lv_at hl 0 rfl) ?_
  obtain ⟨hz, hq⟩ := hq
  exact w_eZ hz hX hr hlk hH hq dX6_takeSign_252
set_option maxRecDepth 100000 in
set_option maxHeartbeats 4000000 in
theorem s_X6_takeSign_232 {x1 : Int32} {Q : Int32 → wI → Prop} (C0 : wCx p m c s args meth cX6_takeSign 3 RX6 (some .boolean) D cs ad b) : ∀ (t0 : Int32) (I : wI) (H : Heap) (locs : List Loc) (ls : Array Slot), v_X6_takeSign_232 x1 Q t0 I → wH D cs b G I s H locs → lv_has ls 3 [(0, .ref (b + 111))] → W p l e rm_X6_takeSign s m args below meth c H locs 0 0 (MQ below (va_Qi (Q) (wPo D cs b G) (fun q => b ≤ q)) args s 0 0 (fun q => b ≤ q)) (F0 m 232 ls [.int t0]) := by
  obtain ⟨hX, hr, hlk, hK, hE⟩ := id C0
  have hx := hX.1
  have hb := hX.2.1
  have hown := hX.2.2.2.1
  have hts := hX.2.2.2.2
  intro t0 I H locs ls hq hH hl
  unfold v_X6_takeSign_232 at hq
  refine lv_istore_n (lv' := [(2, .int t0), (0, .ref (b + 111))]) hx hb dX6_takeSign_232 rfl hl (by decide) rfl (fun ls hl => ?_)
  refine lv_aload_n hx hb dX6_takeSign_233 rfl (lv_at hl 1 rfl) ?_
  refine lv_dup hx hb dX6_takeSign_234 rfl ?_
  refine w_geti hX hK hH ck6 sh111 18 fi6_18 q4_91 dX6_takeSign_235 ?_
  refine lv_iload_n hx hb dX6_takeSign_238 rfl (lv_at hl 0 rfl) ?_
  refine lv_if_eq (tgt := 246) hx hb dX6_takeSign_239 (by decide) (fun hc => ?_) (fun hc => ?_)
  · have hq := hq.1 hc
    refine lv_iconst (v := 0) hx hb dX6_takeSign_246 (by decide) ?_
    exact s_X6_takeSign_247  C0  t0 (0 : Int32) (I 111 18) _ _ _ _ hq hH (lv_sub hl [0] rfl)
  · have hq := hq.2 hc
    refine lv_iconst (v := 1) hx hb dX6_takeSign_242 (by decide) ?_
    refine lv_goto (tgt := 247) hx hb dX6_takeSign_243 (by decide) ?_
    exact s_X6_takeSign_247  C0  t0 (1 : Int32) (I 111 18) _ _ _ _ hq hH (lv_sub hl [0] rfl)
set_option maxRecDepth 100000 in
set_option maxHeartbeats 4000000 in
theorem s_X6_takeSign_231 {x1 : Int32} {Q : Int32 → wI → Prop} (C0 : wCx p m c s args meth cX6_takeSign 3 RX6 (some .boolean) D cs ad b) : ∀  (I : wI) (H : Heap) (locs : List Loc) (ls : Array Slot), v_X6_takeSign_231 x1 Q  I → wH D cs b G I s H locs → lv_has ls 3 [(0, .ref (b + 111))] → W p l e rm_X6_takeSign s m args below meth c H locs 0 0 (MQ below (va_Qi (Q) (wPo D cs b G) (fun q => b ≤ q)) args s 0 0 (fun q => b ≤ q)) (F0 m 231 ls []) := by
  obtain ⟨hX, hr, hlk, hK, hE⟩ := id C0
  have hx := hX.1
  have hb := hX.2.1
  have hown := hX.2.2.2.1
  have hts := hX.2.2.2.2
  intro  I H locs ls hq hH hl
  unfold v_X6_takeSign_231 at hq
  refine lv_iconst (v := 0) hx hb dX6_takeSign_231 (by decide) ?_
  exact s_X6_takeSign_232  C0  (0 : Int32) _ _ _ _ hq hH (lv_sub hl [0] rfl)
set_option maxRecDepth 100000 in
set_option maxHeartbeats 4000000 in
theorem s_X6_takeSign_227 {x1 : Int32} {Q : Int32 → wI → Prop} (C0 : wCx p m c s args meth cX6_takeSign 3 RX6 (some .boolean) D cs ad b) : ∀  (I : wI) (H : Heap) (locs : List Loc) (ls : Array Slot), v_X6_takeSign_227 x1 Q  I → wH D cs b G I s H locs → lv_has ls 3 [(0, .ref (b + 111))] → W p l e rm_X6_takeSign s m args below meth c H locs 0 0 (MQ below (va_Qi (Q) (wPo D cs b G) (fun q => b ≤ q)) args s 0 0 (fun q => b ≤ q)) (F0 m 227 ls []) := by
  obtain ⟨hX, hr, hlk, hK, hE⟩ := id C0
  have hx := hX.1
  have hb := hX.2.1
  have hown := hX.2.2.2.1
  have hts := hX.2.2.2.2
  intro  I H locs ls hq hH hl
  unfold v_X6_takeSign_227 at hq
  refine lv_iconst (v := 1) hx hb dX6_takeSign_227 (by decide) ?_
  refine lv_goto (tgt := 232) hx hb dX6_takeSign_228 (by decide) ?_
  exact s_X6_takeSign_232  C0  (1 : Int32) _ _ _ _ hq hH (lv_sub hl [0] rfl)
set_option maxRecDepth 100000 in
set_option maxHeartbeats 4000000 in
theorem s_X6_takeSign_196 {x1 : Int32} {Q : Int32 → wI → Prop} (C0 : wCx p m c s args meth cX6_takeSign 3 RX6 (some .boolean) D cs ad b) : ∀ (t0 : Int32) (I : wI) (H : Heap) (locs : List Loc) (ls : Array Slot), v_X6_takeSign_196 x1 Q t0 I → wH D cs b G I s H locs → lv_has ls 3 [(0, .ref (b + 111)), (1, .int x1)] → W p l e rm_X6_takeSign s m args below meth c H locs 0 0 (MQ below (va_Qi (Q) (wPo D cs b G) (fun q => b ≤ q)) args s 0 0 (fun q => b ≤ q)) (F0 m 196 ls [.int t0, .ref (b + 111)]) := by
  obtain ⟨hX, hr, hlk, hK, hE⟩ := id C0
  have hx := hX.1
  have hb := hX.2.1
  have hown := hX.2.2.2.1
  have hts := hX.2.2.2.2
  intro t0 I H locs ls hq hH hl
  unfold v_X6_takeSign_196 at hq
  obtain ⟨hz, hq⟩ := hq
  refine w_putz hz hX hK hH ck6 sh111 20 fw6_20 q4_93 dX6_takeSign_196 (fun I1 H locs hI hH => ?_)
  have hq := hq I1 hI
  refine lv_aload_n hx hb dX6_takeSign_199 rfl (lv_at hl 0 rfl) ?_
  refine w_geti hX hK hH ck6 sh111 20 fi6_20 q4_93 dX6_takeSign_200 ?_
  refine lv_if_ne (tgt := 227) hx hb dX6_takeSign_203 (by decide) (fun hc => ?_) (fun hc => ?_)
  · have hq := hq.1 hc
    exact s_X6_takeSign_227  C0   _ _ _ _ hq hH (lv_sub hl [0] rfl)
  · have hq := hq.2 hc
    refine lv_iload_n hx hb dX6_takeSign_206 rfl (lv_at hl 1 rfl) ?_
    refine lv_bipush (v := 93) hx hb dX6_takeSign_207 (by decide) ?_
    refine lv_icmp_ne (tgt := 231) hx hb dX6_takeSign_209 (by decide) (fun hc => ?_) (fun hc => ?_)
    · have hq := hq.1 hc
      exact s_X6_takeSign_231  C0   _ _ _ _ hq hH (lv_sub hl [0] rfl)
    · have hq := hq.2 hc
      refine lv_aload_n hx hb dX6_takeSign_212 rfl (lv_at hl 0 rfl) ?_
      refine w_getr hX hK hH ck6 sh111 13 8 119 fr6_13 rfl q4_86 dX6_takeSign_213 ?_
      refine lv_aload_n hx hb dX6_takeSign_216 rfl (lv_at hl 0 rfl) ?_
      refine w_geti hX hK hH ck6 sh111 18 fi6_18 q4_91 dX6_takeSign_217 ?_
      refine lv_iconst (v := 1) hx hb dX6_takeSign_220 (by decide) ?_
      refine lv_isub hx hb dX6_takeSign_221 ?_
      obtain ⟨hc, hq⟩ := hq
      refine w_iald hX hK hH (sf6_13 sh111) hc dX6_takeSign_222 ?_
      refine lv_iconst (v := 3) hx hb dX6_takeSign_223 (by decide) ?_
      refine lv_icmp_ne (tgt := 231) hx hb dX6_takeSign_224 (by decide) (fun hc => ?_) (fun hc => ?_)
      · have hq := hq.1 hc
        exact s_X6_takeSign_231  C0   _ _ _ _ hq hH (lv_sub hl [0] rfl)
      · have hq := hq.2 hc
        exact s_X6_takeSign_227  C0   _ _ _ _ hq hH (lv_sub hl [0] rfl)
set_option maxRecDepth 100000 in
set_option maxHeartbeats 4000000 in
theorem s_X6_takeSign_195 {x1 : Int32} {Q : Int32 → wI → Prop} (C0 : wCx p m c s args meth cX6_takeSign 3 RX6 (some .boolean) D cs ad b) : ∀  (I : wI) (H : Heap) (locs : List Loc) (ls : Array Slot), v_X6_takeSign_195 x1 Q  I → wH D cs b G I s H locs → lv_has ls 3 [(0, .ref (b + 111)), (1, .int x1)] → W p l e rm_X6_takeSign s m args below meth c H locs 0 0 (MQ below (va_Qi (Q) (wPo D cs b G) (fun q => b ≤ q)) args s 0 0 (fun q => b ≤ q)) (F0 m 195 ls [.ref (b + 111)]) := by
  obtain ⟨hX, hr, hlk, hK, hE⟩ := id C0
  have hx := hX.1
  have hb := hX.2.1
  have hown := hX.2.2.2.1
  have hts := hX.2.2.2.2
  intro  I H locs ls hq hH hl
  unfold v_X6_takeSign_195 at hq
  refine lv_iconst (v := 0) hx hb dX6_takeSign_195 (by decide) ?_
  exact s_X6_takeSign_196  C0  (0 : Int32) _ _ _ _ hq hH (lv_sub hl [0, 1] rfl)
set_option maxRecDepth 100000 in
set_option maxHeartbeats 4000000 in
theorem s_X6_takeSign_169 {x1 : Int32} {Q : Int32 → wI → Prop} (C0 : wCx p m c s args meth cX6_takeSign 3 RX6 (some .boolean) D cs ad b) : ∀  (I : wI) (H : Heap) (locs : List Loc) (ls : Array Slot), v_X6_takeSign_169 x1 Q  I → wH D cs b G I s H locs → lv_has ls 3 [(0, .ref (b + 111)), (1, .int x1)] → W p l e rm_X6_takeSign s m args below meth c H locs 0 0 (MQ below (va_Qi (Q) (wPo D cs b G) (fun q => b ≤ q)) args s 0 0 (fun q => b ≤ q)) (F0 m 169 ls []) := by
  obtain ⟨hX, hr, hlk, hK, hE⟩ := id C0
  have hx := hX.1
  have hb := hX.2.1
  have hown := hX.2.2.2.1
  have hts := hX.2.2.2.2
  intro  I H locs ls hq hH hl
  unfold v_X6_takeSign_169 at hq
  refine lv_aload_n hx hb dX6_takeSign_169 rfl (lv_at hl 0 rfl) ?_
  refine lv_iload_n hx hb dX6_takeSign_170 rfl (lv_at hl 1 rfl) ?_
  refine lv_bipush (v := 41) hx hb dX6_takeSign_171 (by decide) ?_
  refine lv_icmp_ne (tgt := 195) hx hb dX6_takeSign_173 (by decide) (fun hc => ?_) (fun hc => ?_)
  · have hq := hq.1 hc
    exact s_X6_takeSign_195  C0   _ _ _ _ hq hH (lv_sub hl [0, 1] rfl)
  · have hq := hq.2 hc
    refine lv_aload_n hx hb dX6_takeSign_176 rfl (lv_at hl 0 rfl) ?_
    refine w_getr hX hK hH ck6 sh111 13 8 119 fr6_13 rfl q4_86 dX6_takeSign_177 ?_
    refine lv_aload_n hx hb dX6_takeSign_180 rfl (lv_at hl 0 rfl) ?_
    refine w_geti hX hK hH ck6 sh111 18 fi6_18 q4_91 dX6_takeSign_181 ?_
    refine lv_iconst (v := 1) hx hb dX6_takeSign_184 (by decide) ?_
    refine lv_isub hx hb dX6_takeSign_185 ?_
    obtain ⟨hc, hq⟩ := hq
    refine w_iald hX hK hH (sf6_13 sh111) hc dX6_takeSign_186 ?_
    refine lv_iconst (v := 1) hx hb dX6_takeSign_187 (by decide) ?_
    refine lv_icmp_ne (tgt := 195) hx hb dX6_takeSign_188 (by decide) (fun hc => ?_) (fun hc => ?_)
    · have hq := hq.1 hc
      exact s_X6_takeSign_195  C0   _ _ _ _ hq hH (lv_sub hl [0, 1] rfl)
    · have hq := hq.2 hc
      refine lv_iconst (v := 1) hx hb dX6_takeSign_191 (by decide) ?_
      refine lv_goto (tgt := 196) hx hb dX6_takeSign_192 (by decide) ?_
      exact s_X6_takeSign_196  C0  (1 : Int32) _ _ _ _ hq hH (lv_sub hl [0, 1] rfl)
set_option maxRecDepth 100000 in
set_option maxHeartbeats 4000000 in
theorem s_X6_takeSign_127 {x1 : Int32} {Q : Int32 → wI → Prop} (C0 : wCx p m c s args meth cX6_takeSign 3 RX6 (some .boolean) D cs ad b) : ∀  (I : wI) (H : Heap) (locs : List Loc) (ls : Array Slot), v_X6_takeSign_127 x1 Q  I → wH D cs b G I s H locs → lv_has ls 3 [] → W p l e rm_X6_takeSign s m args below meth c H locs 0 0 (MQ below (va_Qi (Q) (wPo D cs b G) (fun q => b ≤ q)) args s 0 0 (fun q => b ≤ q)) (F0 m 127 ls []) := by
  obtain ⟨hX, hr, hlk, hK, hE⟩ := id C0
  have hx := hX.1
  have hb := hX.2.1
  have hown := hX.2.2.2.1
  have hts := hX.2.2.2.2
  intro  I H locs ls hq hH hl
  unfold v_X6_takeSign_127 at hq
  refine lv_iconst (v := 0) hx hb dX6_takeSign_127 (by decide) ?_
  exact w_eZ (by decide) hX hr hlk hH hq dX6_takeSign_128
set_option maxRecDepth 100000 in
set_option maxHeartbeats 4000000 in
theorem s_X6_takeSign_95 {x1 : Int32} {Q : Int32 → wI → Prop} (C0 : wCx p m c s args meth cX6_takeSign 3 RX6 (some .boolean) D cs ad b) : ∀ (t0 : Int32) (t1 : Int32) (I : wI) (H : Heap) (locs : List Loc) (ls : Array Slot), v_X6_takeSign_95 x1 Q t0 t1 I → wH D cs b G I s H locs → lv_has ls 3 [(0, .ref (b + 111))] → W p l e rm_X6_takeSign s m args below meth c H locs 0 0 (MQ below (va_Qi (Q) (wPo D cs b G) (fun q => b ≤ q)) args s 0 0 (fun q => b ≤ q)) (F0 m 95 ls [.int t0, .int t1, .ref (b + 119)]) := by
  obtain ⟨hX, hr, hlk, hK, hE⟩ := id C0
  have hx := hX.1
  have hb := hX.2.1
  have hown := hX.2.2.2.1
  have hts := hX.2.2.2.2
  intro t0 t1 I H locs ls hq hH hl
  unfold v_X6_takeSign_95 at hq
  obtain ⟨hc, hq⟩ := hq
  refine w_iast hX hK hH (sf6_13 sh111) hc dX6_takeSign_95 (fun I1 H locs hI hH => ?_)
  have hq := hq I1 hI
  refine lv_aload_n hx hb dX6_takeSign_96 rfl (lv_at hl 0 rfl) ?_
  refine lv_dup hx hb dX6_takeSign_97 rfl ?_
  refine w_geti hX hK hH ck6 sh111 18 fi6_18 q4_91 dX6_takeSign_98 ?_
  refine lv_iconst (v := 1) hx hb dX6_takeSign_101 (by decide) ?_
  refine lv_iadd hx hb dX6_takeSign_102 ?_
  refine w_puti hX hK hH ck6 sh111 18 fw6_18 q4_91 dX6_takeSign_103 (fun I2 H locs hI hH => ?_)
  have hq := hq I2 hI
  refine lv_aload_n hx hb dX6_takeSign_106 rfl (lv_at hl 0 rfl) ?_
  refine lv_iconst (v := 0) hx hb dX6_takeSign_107 (by decide) ?_
  refine w_putz (by decide) hX hK hH ck6 sh111 19 fw6_19 q4_92 dX6_takeSign_108 (fun I3 H locs hI hH => ?_)
  have hq := hq I3 hI
  refine lv_iconst (v := 1) hx hb dX6_takeSign_111 (by decide) ?_
  exact w_eZ (by decide) hX hr hlk hH hq dX6_takeSign_112
set_option maxRecDepth 100000 in
set_option maxHeartbeats 4000000 in
theorem s_X6_takeSign_62 {x1 : Int32} {Q : Int32 → wI → Prop} (C0 : wCx p m c s args meth cX6_takeSign 3 RX6 (some .boolean) D cs ad b) : ∀  (I : wI) (H : Heap) (locs : List Loc) (ls : Array Slot), v_X6_takeSign_62 x1 Q  I → wH D cs b G I s H locs → lv_has ls 3 [(0, .ref (b + 111)), (1, .int x1)] → W p l e rm_X6_takeSign s m args below meth c H locs 0 0 (MQ below (va_Qi (Q) (wPo D cs b G) (fun q => b ≤ q)) args s 0 0 (fun q => b ≤ q)) (F0 m 62 ls []) := by
  obtain ⟨hX, hr, hlk, hK, hE⟩ := id C0
  have hx := hX.1
  have hb := hX.2.1
  have hown := hX.2.2.2.1
  have hts := hX.2.2.2.2
  intro  I H locs ls hq hH hl
  unfold v_X6_takeSign_62 at hq
  refine lv_aload_n hx hb dX6_takeSign_62 rfl (lv_at hl 0 rfl) ?_
  refine w_geti hX hK hH ck6 sh111 18 fi6_18 q4_91 dX6_takeSign_63 ?_
  refine lv_aload_n hx hb dX6_takeSign_66 rfl (lv_at hl 0 rfl) ?_
  refine w_getr hX hK hH ck6 sh111 13 8 119 fr6_13 rfl q4_86 dX6_takeSign_67 ?_
  refine w_alen (v := 4) hX hK hH (sf6_13 sh111) rfl dX6_takeSign_70 ?_
  refine lv_icmp_ne (tgt := 76) hx hb dX6_takeSign_71 (by decide) (fun hc => ?_) (fun hc => ?_)
  · have hq := hq.1 hc
    refine lv_aload_n hx hb dX6_takeSign_76 rfl (lv_at hl 0 rfl) ?_
    refine w_getr hX hK hH ck6 sh111 13 8 119 fr6_13 rfl q4_86 dX6_takeSign_77 ?_
    refine lv_aload_n hx hb dX6_takeSign_80 rfl (lv_at hl 0 rfl) ?_
    refine w_geti hX hK hH ck6 sh111 18 fi6_18 q4_91 dX6_takeSign_81 ?_
    refine lv_iload_n hx hb dX6_takeSign_84 rfl (lv_at hl 1 rfl) ?_
    refine lv_bipush (v := 40) hx hb dX6_takeSign_85 (by decide) ?_
    refine lv_icmp_ne (tgt := 94) hx hb dX6_takeSign_87 (by decide) (fun hc => ?_) (fun hc => ?_)
    · have hq := hq.1 hc
      refine lv_iconst (v := 2) hx hb dX6_takeSign_94 (by decide) ?_
      exact s_X6_takeSign_95  C0  (2 : Int32) (I 111 18) _ _ _ _ hq hH (lv_sub hl [0] rfl)
    · have hq := hq.2 hc
      refine lv_iconst (v := 1) hx hb dX6_takeSign_90 (by decide) ?_
      refine lv_goto (tgt := 95) hx hb dX6_takeSign_91 (by decide) ?_
      exact s_X6_takeSign_95  C0  (1 : Int32) (I 111 18) _ _ _ _ hq hH (lv_sub hl [0] rfl)
  · have hq := hq.2 hc
    refine lv_iconst (v := 0) hx hb dX6_takeSign_74 (by decide) ?_
    exact w_eZ (by decide) hX hr hlk hH hq dX6_takeSign_75
set_option maxRecDepth 100000 in
set_option maxHeartbeats 4000000 in
theorem s_X6_takeSign_43 {x1 : Int32} {Q : Int32 → wI → Prop} (C0 : wCx p m c s args meth cX6_takeSign 3 RX6 (some .boolean) D cs ad b) : ∀  (I : wI) (H : Heap) (locs : List Loc) (ls : Array Slot), v_X6_takeSign_43 x1 Q  I → wH D cs b G I s H locs → lv_has ls 3 [(0, .ref (b + 111))] → W p l e rm_X6_takeSign s m args below meth c H locs 0 0 (MQ below (va_Qi (Q) (wPo D cs b G) (fun q => b ≤ q)) args s 0 0 (fun q => b ≤ q)) (F0 m 43 ls []) := by
  obtain ⟨hX, hr, hlk, hK, hE⟩ := id C0
  have hx := hX.1
  have hb := hX.2.1
  have hown := hX.2.2.2.1
  have hts := hX.2.2.2.2
  intro  I H locs ls hq hH hl
  unfold v_X6_takeSign_43 at hq
  refine lv_aload_n hx hb dX6_takeSign_43 rfl (lv_at hl 0 rfl) ?_
  refine lv_iconst (v := 1) hx hb dX6_takeSign_44 (by decide) ?_
  refine w_putz (by decide) hX hK hH ck6 sh111 19 fw6_19 q4_92 dX6_takeSign_45 (fun I1 H locs hI hH => ?_)
  have hq := hq I1 hI
  refine lv_iconst (v := 1) hx hb dX6_takeSign_48 (by decide) ?_
  exact w_eZ (by decide) hX hr hlk hH hq dX6_takeSign_49
set_option maxRecDepth 100000 in
set_option maxHeartbeats 4000000 in
theorem c_X6_takeSign {l : Launch} {D : va_G} {cs : wC4} {ad : Nat → Nat} {b : Nat} {G : wG} (x1 : Int32) (I : wI) (hp : pre_X6_takeSign x1 I) : Met l yX6_takeSign (ws_ yX6_takeSign cX6_takeSign 3 (some .boolean)) rm_X6_takeSign (va_Pc [.ref (b + 111), .int x1] (wPr D cs ad b G I)) (va_Qi (fun r I' => post_X6_takeSign x1 I r I') (wPo D cs b G) (fun q => b ≤ q)) 0 0 (fun q => b ≤ q) := by
  have hq := vc_X6_takeSign x1 I hp
  refine w_met (by decide) (Nat.le_of_ble_eq_true rfl) ?_
  intro p e s m below meth c hX hr hlk hK hE hH ls hl
  have C0 : wCx p m c s _ meth cX6_takeSign 3 RX6 (some .boolean) D cs ad b := ⟨hX, hr, hlk, hK, hE⟩
  have hX : CallFix p m c cX6_takeSign 3 s _ lw_all RX6 := hX
  have hx := hX.1
  have hb := hX.2.1
  have hown := hX.2.2.2.1
  have hts := hX.2.2.2.2
  have hl : lv_has ls 3 [(0, .ref (b + 111)), (1, .int x1)] := hl
  unfold v_X6_takeSign at hq
  refine lv_aload_n hx hb dX6_takeSign_0 rfl (lv_at hl 0 rfl) ?_
  refine w_geti hX hK hH ck6 sh111 20 fi6_20 q4_93 dX6_takeSign_1 ?_
  refine lv_if_eq (tgt := 21) hx hb dX6_takeSign_4 (by decide) (fun hc => ?_) (fun hc => ?_)
  · have hq := hq.1 hc
    refine lv_iload_n hx hb dX6_takeSign_21 rfl (lv_at hl 1 rfl) ?_
    refine lv_bipush (v := 97) hx hb dX6_takeSign_22 (by decide) ?_
    refine lv_bipush (v := 101) hx hb dX6_takeSign_24 (by decide) ?_
    obtain ⟨hp, hq⟩ := hq
    refine w_cIp hH (w_rS (As := [.int x1, .int (97 : Int32), .int (101 : Int32)]) (rest := []) hX hK hE hH (c_X6_in  _ _ _ _ hp) q4_168 q4_169 q1_7 q4_170 hd_X6_in.2 ⟨Nat.le_of_ble_eq_true rfl, Nat.le_of_ble_eq_true rfl⟩ ⟨rfl, rfl⟩ rfl hl.1 rfl (Nat.le_of_ble_eq_true rfl) dX6_takeSign_26 ⟨Nat.zero_le _, Nat.zero_le _⟩) (fun r1  H locs hpo hH => ?_)
    have hq := hq r1  hpo
    refine lv_if_ne (tgt := 43) hx hb dX6_takeSign_29 (by decide) (fun hc => ?_) (fun hc => ?_)
    · have hq := hq.1 hc
      exact s_X6_takeSign_43  C0   _ _ _ _ hq hH (lv_sub hl [0] rfl)
    · have hq := hq.2 hc
      refine lv_iload_n hx hb dX6_takeSign_32 rfl (lv_at hl 1 rfl) ?_
      refine lv_bipush (v := 65) hx hb dX6_takeSign_33 (by decide) ?_
      refine lv_bipush (v := 69) hx hb dX6_takeSign_35 (by decide) ?_
      obtain ⟨hp, hq⟩ := hq
      refine w_cIp hH (w_rS (As := [.int x1, .int (65 : Int32), .int (69 : Int32)]) (rest := []) hX hK hE hH (c_X6_in  _ _ _ _ hp) q4_168 q4_169 q1_7 q4_170 hd_X6_in.2 ⟨Nat.le_of_ble_eq_true rfl, Nat.le_of_ble_eq_true rfl⟩ ⟨rfl, rfl⟩ rfl hl.1 rfl (Nat.le_of_ble_eq_true rfl) dX6_takeSign_37 ⟨Nat.zero_le _, Nat.zero_le _⟩) (fun r2  H locs hpo hH => ?_)
      have hq := hq r2  hpo
      refine lv_if_eq (tgt := 50) hx hb dX6_takeSign_40 (by decide) (fun hc => ?_) (fun hc => ?_)
      · have hq := hq.1 hc
        refine lv_iload_n hx hb dX6_takeSign_50 rfl (lv_at hl 1 rfl) ?_
        refine lv_bipush (v := 40) hx hb dX6_takeSign_51 (by decide) ?_
        refine lv_icmp_eq (tgt := 62) hx hb dX6_takeSign_53 (by decide) (fun hc => ?_) (fun hc => ?_)
        · have hq := hq.1 hc
          exact s_X6_takeSign_62  C0   _ _ _ _ hq hH (lv_sub hl [0, 1] rfl)
        · have hq := hq.2 hc
          refine lv_iload_n hx hb dX6_takeSign_56 rfl (lv_at hl 1 rfl) ?_
          refine lv_bipush (v := 91) hx hb dX6_takeSign_57 (by decide) ?_
          refine lv_icmp_ne (tgt := 113) hx hb dX6_takeSign_59 (by decide) (fun hc => ?_) (fun hc => ?_)
          · have hq := hq.1 hc
            refine lv_aload_n hx hb dX6_takeSign_113 rfl (lv_at hl 0 rfl) ?_
            refine w_geti hX hK hH ck6 sh111 18 fi6_18 q4_91 dX6_takeSign_114 ?_
            refine lv_if_eq (tgt := 127) hx hb dX6_takeSign_117 (by decide) (fun hc => ?_) (fun hc => ?_)
            · have hq := hq.1 hc
              exact s_X6_takeSign_127  C0   _ _ _ _ hq hH (lv_sub hl [] rfl)
            · have hq := hq.2 hc
              refine lv_aload_n hx hb dX6_takeSign_120 rfl (lv_at hl 0 rfl) ?_
              refine w_geti hX hK hH ck6 sh111 19 fi6_19 q4_92 dX6_takeSign_121 ?_
              refine lv_if_ne (tgt := 129) hx hb dX6_takeSign_124 (by decide) (fun hc => ?_) (fun hc => ?_)
              · have hq := hq.1 hc
                refine lv_iload_n hx hb dX6_takeSign_129 rfl (lv_at hl 1 rfl) ?_
                refine lv_bipush (v := 44) hx hb dX6_takeSign_130 (by decide) ?_
                refine lv_icmp_ne (tgt := 169) hx hb dX6_takeSign_132 (by decide) (fun hc => ?_) (fun hc => ?_)
                · have hq := hq.1 hc
                  exact s_X6_takeSign_169  C0   _ _ _ _ hq hH (lv_sub hl [0, 1] rfl)
                · have hq := hq.2 hc
                  refine lv_aload_n hx hb dX6_takeSign_135 rfl (lv_at hl 0 rfl) ?_
                  refine w_getr hX hK hH ck6 sh111 13 8 119 fr6_13 rfl q4_86 dX6_takeSign_136 ?_
                  refine lv_aload_n hx hb dX6_takeSign_139 rfl (lv_at hl 0 rfl) ?_
                  refine w_geti hX hK hH ck6 sh111 18 fi6_18 q4_91 dX6_takeSign_140 ?_
                  refine lv_iconst (v := 1) hx hb dX6_takeSign_143 (by decide) ?_
                  refine lv_isub hx hb dX6_takeSign_144 ?_
                  obtain ⟨hc, hq⟩ := hq
                  refine w_iald hX hK hH (sf6_13 sh111) hc dX6_takeSign_145 ?_
                  refine lv_iconst (v := 2) hx hb dX6_takeSign_146 (by decide) ?_
                  refine lv_icmp_ne (tgt := 169) hx hb dX6_takeSign_147 (by decide) (fun hc => ?_) (fun hc => ?_)
                  · have hq := hq.1 hc
                    exact s_X6_takeSign_169  C0   _ _ _ _ hq hH (lv_sub hl [0, 1] rfl)
                  · have hq := hq.2 hc
                    refine lv_aload_n hx hb dX6_takeSign_150 rfl (lv_at hl 0 rfl) ?_
                    refine w_getr hX hK hH ck6 sh111 13 8 119 fr6_13 rfl q4_86 dX6_takeSign_151 ?_
                    refine lv_aload_n hx hb dX6_takeSign_154 rfl (lv_at hl 0 rfl) ?_
                    refine w_geti hX hK hH ck6 sh111 18 fi6_18 q4_91 dX6_takeSign_155 ?_
                    refine lv_iconst (v := 1) hx hb dX6_takeSign_158 (by decide) ?_
                    refine lv_isub hx hb dX6_takeSign_159 ?_
                    refine lv_iconst (v := 3) hx hb dX6_takeSign_160 (by decide) ?_
                    obtain ⟨hc, hq⟩ := hq
                    refine w_iast hX hK hH (sf6_13 sh111) hc dX6_takeSign_161 (fun I3 H locs hI hH => ?_)
                    have hq := hq I3 hI
                    refine lv_aload_n hx hb dX6_takeSign_162 rfl (lv_at hl 0 rfl) ?_
                    refine lv_iconst (v := 0) hx hb dX6_takeSign_163 (by decide) ?_
                    refine w_putz (by decide) hX hK hH ck6 sh111 19 fw6_19 q4_92 dX6_takeSign_164 (fun I4 H locs hI hH => ?_)
                    have hq := hq I4 hI
                    refine lv_iconst (v := 1) hx hb dX6_takeSign_167 (by decide) ?_
                    exact w_eZ (by decide) hX hr hlk hH hq dX6_takeSign_168
              · have hq := hq.2 hc
                exact s_X6_takeSign_127  C0   _ _ _ _ hq hH (lv_sub hl [] rfl)
          · have hq := hq.2 hc
            exact s_X6_takeSign_62  C0   _ _ _ _ hq hH (lv_sub hl [0, 1] rfl)
      · have hq := hq.2 hc
        exact s_X6_takeSign_43  C0   _ _ _ _ hq hH (lv_sub hl [0] rfl)
  · have hq := hq.2 hc
    refine lv_aload_n hx hb dX6_takeSign_7 rfl (lv_at hl 0 rfl) ?_
    refine lv_iconst (v := 0) hx hb dX6_takeSign_8 (by decide) ?_
    refine w_putz (by decide) hX hK hH ck6 sh111 20 fw6_20 q4_93 dX6_takeSign_9 (fun I5 H locs hI hH => ?_)
    have hq := hq I5 hI
    refine lv_iload_n hx hb dX6_takeSign_12 rfl (lv_at hl 1 rfl) ?_
    refine lv_bipush (v := 50) hx hb dX6_takeSign_13 (by decide) ?_
    refine lv_bipush (v := 57) hx hb dX6_takeSign_15 (by decide) ?_
    obtain ⟨hp, hq⟩ := hq
    refine w_cIp hH (w_rS (As := [.int x1, .int (50 : Int32), .int (57 : Int32)]) (rest := []) hX hK hE hH (c_X6_in  _ _ _ _ hp) q4_168 q4_169 q1_7 q4_170 hd_X6_in.2 ⟨Nat.le_of_ble_eq_true rfl, Nat.le_of_ble_eq_true rfl⟩ ⟨rfl, rfl⟩ rfl hl.1 rfl (Nat.le_of_ble_eq_true rfl) dX6_takeSign_17 ⟨Nat.zero_le _, Nat.zero_le _⟩) (fun r6  H locs hpo hH => ?_)
    have hq := hq r6  hpo
    obtain ⟨hz, hq⟩ := hq
    exact w_eZ hz hX hr hlk hH hq dX6_takeSign_20
abbrev rm_X6_findError : Room := { frames := 2, cells := 0, slots := 0, locals := 44 }
theorem hd_X6_findError : yX6_findError.cls = RX6 ∧ yX6_findError.cls ≠ "java/lang/invoke/MethodHandle" ∧ yX6_findError.cls ≠ "java/lang/invoke/VarHandle" ∧ (parseMethodDescriptor yX6_findError.desc).map (fun d => d.parameters.length) = some 0 := by decide +kernel
set_option maxRecDepth 100000 in
set_option maxHeartbeats 4000000 in
theorem s_X6_findError_44 {Q : Int32 → wI → Prop} (C0 : wCx p m c s args meth cX6_findError 2 RX6 (some .int) D cs ad b) : ∀ (v1 : Int32) (I : wI) (H : Heap) (locs : List Loc) (ls : Array Slot), v_X6_findError_44 Q v1 I → wH D cs b G I s H locs → lv_has ls 2 [(1, .int v1)] → W p l e rm_X6_findError s m args below meth c H locs 0 0 (MQ below (va_Qi (Q) (wPo D cs b G) (fun q => b ≤ q)) args s 0 0 (fun q => b ≤ q)) (F0 m 44 ls []) := by
  obtain ⟨hX, hr, hlk, hK, hE⟩ := id C0
  have hx := hX.1
  have hb := hX.2.1
  have hown := hX.2.2.2.1
  have hts := hX.2.2.2.2
  intro v1 I H locs ls hq hH hl
  unfold v_X6_findError_44 at hq
  refine lv_iload_n hx hb dX6_findError_44 rfl (lv_at hl 0 rfl) ?_
  exact w_eI hX hr hlk hH hq dX6_findError_45
set_option maxRecDepth 100000 in
set_option maxHeartbeats 4000000 in
theorem s_X6_findError_17 {Q : Int32 → wI → Prop} (C0 : wCx p m c s args meth cX6_findError 2 RX6 (some .int) D cs ad b) : ∀ (f : Nat) (v1 : Int32) (I : wI) (H : Heap) (locs : List Loc) (ls : Array Slot), v_X6_findError_17 Q f v1 I → wH D cs b G I s H locs → lv_has ls 2 [(0, .ref (b + 111)), (1, .int v1)] → W p l e rm_X6_findError s m args below meth c H locs 0 0 (MQ below (va_Qi (Q) (wPo D cs b G) (fun q => b ≤ q)) args s 0 0 (fun q => b ≤ q)) (F0 m 17 ls []) := by
  obtain ⟨hX, hr, hlk, hK, hE⟩ := id C0
  have hx := hX.1
  have hb := hX.2.1
  have hown := hX.2.2.2.1
  have hts := hX.2.2.2.2
  intro f
  induction f with
  | zero =>
    intro v1 I H locs ls hq
    exact hq.elim
  | succ f hK17 =>
    intro v1 I H locs ls hq hH hl
    have hq : g_X6_findError_17 Q (v_X6_findError_17 Q f) v1 I := hq
    unfold g_X6_findError_17 at hq
    refine lv_iload_n hx hb dX6_findError_17 rfl (lv_at hl 1 rfl) ?_
    refine lv_aload_n hx hb dX6_findError_18 rfl (lv_at hl 0 rfl) ?_
    refine w_geti hX hK hH ck6 sh111 8 fi6_8 q4_81 dX6_findError_19 ?_
    refine lv_icmp_ge (tgt := 44) hx hb dX6_findError_22 (by decide) (fun hc => ?_) (fun hc => ?_)
    · have hq := hq.1 hc
      exact s_X6_findError_44  C0  v1 _ _ _ _ hq hH (lv_sub hl [1] rfl)
    · have hq := hq.2 hc
      refine lv_aload_n hx hb dX6_findError_25 rfl (lv_at hl 0 rfl) ?_
      refine lv_aload_n hx hb dX6_findError_26 rfl (lv_at hl 0 rfl) ?_
      refine w_getr hX hK hH ck6 sh111 7 5 116 fr6_7 rfl q4_80 dX6_findError_27 ?_
      refine lv_iload_n hx hb dX6_findError_30 rfl (lv_at hl 1 rfl) ?_
      obtain ⟨hc, hq⟩ := hq
      refine w_iald hX hK hH (sf6_7 sh111) hc dX6_findError_31 ?_
      obtain ⟨hp, hq⟩ := hq
      refine w_cI hH (w_rV (As := [.int (I 116 (v1).toNatClampNeg)]) (rest := []) hX hK hE hH (c_X6_takeSign  _ _ hp) ck6 sh111 q4_222 q4_224 qs41 q1_7 q4_225 hd_X6_takeSign ⟨Nat.le_of_ble_eq_true rfl, Nat.le_of_ble_eq_true rfl⟩ ⟨rfl, rfl⟩ rfl hl.1 rfl (Nat.le_of_ble_eq_true rfl) dX6_findError_32 ⟨Nat.zero_le _, Nat.zero_le _⟩) (fun r1 I2 H locs hpo hH => ?_)
      have hq := hq r1 I2 hpo
      refine lv_if_eq (tgt := 44) hx hb dX6_findError_35 (by decide) (fun hc => ?_) (fun hc => ?_)
      · have hq := hq.1 hc
        exact s_X6_findError_44  C0  v1 _ _ _ _ hq hH (lv_sub hl [1] rfl)
      · have hq := hq.2 hc
        refine lv_iinc (v := (v1 + (1 : Int32))) (lv' := [(1, .int (v1 + (1 : Int32))), (0, .ref (b + 111))]) hx hb dX6_findError_38 hl (k := 1) rfl rfl (by decide) rfl (fun ls hl => ?_)
        refine lv_goto (tgt := 17) hx hb dX6_findError_41 (by decide) ?_
        exact hK17 (v1 + (1 : Int32)) _ _ _ _ hq hH (lv_sub hl [1, 0] rfl)
set_option maxRecDepth 100000 in
set_option maxHeartbeats 4000000 in
theorem c_X6_findError {l : Launch} {D : va_G} {cs : wC4} {ad : Nat → Nat} {b : Nat} {G : wG}  (I : wI) (hp : pre_X6_findError  I) : Met l yX6_findError (ws_ yX6_findError cX6_findError 2 (some .int)) rm_X6_findError (va_Pc [.ref (b + 111)] (wPr D cs ad b G I)) (va_Qi (fun r I' => post_X6_findError  I r I') (wPo D cs b G) (fun q => b ≤ q)) 0 0 (fun q => b ≤ q) := by
  have hq := vc_X6_findError  I hp
  refine w_met (by decide) (Nat.le_of_ble_eq_true rfl) ?_
  intro p e s m below meth c hX hr hlk hK hE hH ls hl
  have C0 : wCx p m c s _ meth cX6_findError 2 RX6 (some .int) D cs ad b := ⟨hX, hr, hlk, hK, hE⟩
  have hX : CallFix p m c cX6_findError 2 s _ lw_all RX6 := hX
  have hx := hX.1
  have hb := hX.2.1
  have hown := hX.2.2.2.1
  have hts := hX.2.2.2.2
  have hl : lv_has ls 2 [(0, .ref (b + 111))] := hl
  unfold v_X6_findError at hq
  refine lv_aload_n hx hb dX6_findError_0 rfl (lv_at hl 0 rfl) ?_
  refine lv_iconst (v := 0) hx hb dX6_findError_1 (by decide) ?_
  refine w_puti hX hK hH ck6 sh111 18 fw6_18 q4_91 dX6_findError_2 (fun I1 H locs hI hH => ?_)
  have hq := hq I1 hI
  refine lv_aload_n hx hb dX6_findError_5 rfl (lv_at hl 0 rfl) ?_
  refine lv_iconst (v := 0) hx hb dX6_findError_6 (by decide) ?_
  refine w_putz (by decide) hX hK hH ck6 sh111 19 fw6_19 q4_92 dX6_findError_7 (fun I2 H locs hI hH => ?_)
  have hq := hq I2 hI
  refine lv_aload_n hx hb dX6_findError_10 rfl (lv_at hl 0 rfl) ?_
  refine lv_iconst (v := 0) hx hb dX6_findError_11 (by decide) ?_
  refine w_putz (by decide) hX hK hH ck6 sh111 20 fw6_20 q4_93 dX6_findError_12 (fun I3 H locs hI hH => ?_)
  have hq := hq I3 hI
  refine lv_iconst (v := 0) hx hb dX6_findError_15 (by decide) ?_
  refine lv_istore_n (lv' := [(1, .int (0 : Int32)), (0, .ref (b + 111))]) hx hb dX6_findError_16 rfl hl (by decide) rfl (fun ls hl => ?_)
  obtain ⟨f, hq⟩ := hq
  exact s_X6_findError_17  C0  f (0 : Int32) _ _ _ _ hq hH (lv_sub hl [1, 0] rfl)
abbrev rm_X6_isWhole : Room := { frames := 3, cells := 0, slots := 0, locals := 65 }
theorem hd_X6_isWhole : yX6_isWhole.cls = RX6 ∧ yX6_isWhole.cls ≠ "java/lang/invoke/MethodHandle" ∧ yX6_isWhole.cls ≠ "java/lang/invoke/VarHandle" ∧ (parseMethodDescriptor yX6_isWhole.desc).map (fun d => d.parameters.length) = some 0 := by decide +kernel
set_option maxRecDepth 100000 in
set_option maxHeartbeats 4000000 in
theorem s_X6_isWhole_37 {Q : Int32 → wI → Prop} (C0 : wCx p m c s args meth cX6_isWhole 1 RX6 (some .boolean) D cs ad b) : ∀ (t0 : Int32) (I : wI) (H : Heap) (locs : List Loc) (ls : Array Slot), v_X6_isWhole_37 Q t0 I → wH D cs b G I s H locs → lv_has ls 1 [] → W p l e rm_X6_isWhole s m args below meth c H locs 0 0 (MQ below (va_Qi (Q) (wPo D cs b G) (fun q => b ≤ q)) args s 0 0 (fun q => b ≤ q)) (F0 m 37 ls [.int t0]) := by
  obtain ⟨hX, hr, hlk, hK, hE⟩ := id C0
  have hx := hX.1
  have hb := hX.2.1
  have hown := hX.2.2.2.1
  have hts := hX.2.2.2.2
  intro t0 I H locs ls hq hH hl
  unfold v_X6_isWhole_37 at hq
  obtain ⟨hz, hq⟩ := hq
  exact w_eZ hz hX hr hlk hH hq dX6_isWhole_37
set_option maxRecDepth 100000 in
set_option maxHeartbeats 4000000 in
theorem s_X6_isWhole_36 {Q : Int32 → wI → Prop} (C0 : wCx p m c s args meth cX6_isWhole 1 RX6 (some .boolean) D cs ad b) : ∀  (I : wI) (H : Heap) (locs : List Loc) (ls : Array Slot), v_X6_isWhole_36 Q  I → wH D cs b G I s H locs → lv_has ls 1 [] → W p l e rm_X6_isWhole s m args below meth c H locs 0 0 (MQ below (va_Qi (Q) (wPo D cs b G) (fun q => b ≤ q)) args s 0 0 (fun q => b ≤ q)) (F0 m 36 ls []) := by
  obtain ⟨hX, hr, hlk, hK, hE⟩ := id C0
  have hx := hX.1
  have hb := hX.2.1
  have hown := hX.2.2.2.1
  have hts := hX.2.2.2.2
  intro  I H locs ls hq hH hl
  unfold v_X6_isWhole_36 at hq
  refine lv_iconst (v := 0) hx hb dX6_isWhole_36 (by decide) ?_
  exact s_X6_isWhole_37  C0  (0 : Int32) _ _ _ _ hq hH (lv_sub hl [] rfl)
set_option maxRecDepth 100000 in
set_option maxHeartbeats 4000000 in
theorem c_X6_isWhole {l : Launch} {D : va_G} {cs : wC4} {ad : Nat → Nat} {b : Nat} {G : wG}  (I : wI) (hp : pre_X6_isWhole  I) : Met l yX6_isWhole (ws_ yX6_isWhole cX6_isWhole 1 (some .boolean)) rm_X6_isWhole (va_Pc [.ref (b + 111)] (wPr D cs ad b G I)) (va_Qi (fun r I' => post_X6_isWhole  I r I') (wPo D cs b G) (fun q => b ≤ q)) 0 0 (fun q => b ≤ q) := by
  have hq := vc_X6_isWhole  I hp
  refine w_met (by decide) (Nat.le_of_ble_eq_true rfl) ?_
  intro p e s m below meth c hX hr hlk hK hE hH ls hl
  have C0 : wCx p m c s _ meth cX6_isWhole 1 RX6 (some .boolean) D cs ad b := ⟨hX, hr, hlk, hK, hE⟩
  have hX : CallFix p m c cX6_isWhole 1 s _ lw_all RX6 := hX
  have hx := hX.1
  have hb := hX.2.1
  have hown := hX.2.2.2.1
  have hts := hX.2.2.2.2
  have hl : lv_has ls 1 [(0, .ref (b + 111))] := hl
  unfold v_X6_isWhole at hq
  refine lv_aload_n hx hb dX6_isWhole_0 rfl (lv_at hl 0 rfl) ?_
  obtain ⟨hp, hq⟩ := hq
  refine w_cI hH (w_rV (As := []) (rest := []) hX hK hE hH (c_X6_findError   _ hp) ck6 sh111 q4_218 q4_220 qs40 q1_7 q4_221 hd_X6_findError ⟨Nat.le_of_ble_eq_true rfl, Nat.le_of_ble_eq_true rfl⟩ ⟨rfl, rfl⟩ rfl hl.1 rfl (Nat.le_of_ble_eq_true rfl) dX6_isWhole_1 ⟨Nat.zero_le _, Nat.zero_le _⟩) (fun r1 I2 H locs hpo hH => ?_)
  have hq := hq r1 I2 hpo
  refine lv_aload_n hx hb dX6_isWhole_4 rfl (lv_at hl 0 rfl) ?_
  refine w_geti hX hK hH ck6 sh111 8 fi6_8 q4_81 dX6_isWhole_5 ?_
  refine lv_icmp_ne (tgt := 36) hx hb dX6_isWhole_8 (by decide) (fun hc => ?_) (fun hc => ?_)
  · have hq := hq.1 hc
    exact s_X6_isWhole_36  C0   _ _ _ _ hq hH (lv_sub hl [] rfl)
  · have hq := hq.2 hc
    refine lv_aload_n hx hb dX6_isWhole_11 rfl (lv_at hl 0 rfl) ?_
    refine w_geti hX hK hH ck6 sh111 18 fi6_18 q4_91 dX6_isWhole_12 ?_
    refine lv_if_ne (tgt := 36) hx hb dX6_isWhole_15 (by decide) (fun hc => ?_) (fun hc => ?_)
    · have hq := hq.1 hc
      exact s_X6_isWhole_36  C0   _ _ _ _ hq hH (lv_sub hl [] rfl)
    · have hq := hq.2 hc
      refine lv_aload_n hx hb dX6_isWhole_18 rfl (lv_at hl 0 rfl) ?_
      refine w_geti hX hK hH ck6 sh111 19 fi6_19 q4_92 dX6_isWhole_19 ?_
      refine lv_if_eq (tgt := 36) hx hb dX6_isWhole_22 (by decide) (fun hc => ?_) (fun hc => ?_)
      · have hq := hq.1 hc
        exact s_X6_isWhole_36  C0   _ _ _ _ hq hH (lv_sub hl [] rfl)
      · have hq := hq.2 hc
        refine lv_aload_n hx hb dX6_isWhole_25 rfl (lv_at hl 0 rfl) ?_
        refine w_geti hX hK hH ck6 sh111 20 fi6_20 q4_93 dX6_isWhole_26 ?_
        refine lv_if_ne (tgt := 36) hx hb dX6_isWhole_29 (by decide) (fun hc => ?_) (fun hc => ?_)
        · have hq := hq.1 hc
          exact s_X6_isWhole_36  C0   _ _ _ _ hq hH (lv_sub hl [] rfl)
        · have hq := hq.2 hc
          refine lv_iconst (v := 1) hx hb dX6_isWhole_32 (by decide) ?_
          refine lv_goto (tgt := 37) hx hb dX6_isWhole_33 (by decide) ?_
          exact s_X6_isWhole_37  C0  (1 : Int32) _ _ _ _ hq hH (lv_sub hl [] rfl)
abbrev rm_X6_addTurn : Room := { frames := 0, cells := 0, slots := 0, locals := 0 }
theorem hd_X6_addTurn : yX6_addTurn.cls = RX6 ∧ yX6_addTurn.cls ≠ "java/lang/invoke/MethodHandle" ∧ yX6_addTurn.cls ≠ "java/lang/invoke/VarHandle" ∧ (parseMethodDescriptor yX6_addTurn.desc).map (fun d => d.parameters.length) = some 1 := by decide +kernel
set_option maxRecDepth 100000 in
set_option maxHeartbeats 4000000 in
theorem s_X6_addTurn_45 {x1 : Int32} {Q : wI → Prop} (C0 : wCx p m c s args meth cX6_addTurn 2 RX6 none D cs ad b) : ∀ (t0 : Int32) (t1 : Int32) (I : wI) (H : Heap) (locs : List Loc) (ls : Array Slot), v_X6_addTurn_45 x1 Q t0 t1 I → wH D cs b G I s H locs → lv_has ls 2 [] → W p l e rm_X6_addTurn s m args below meth c H locs 0 0 (MQ below (va_Qv (Q) (wPo D cs b G) (fun q => b ≤ q)) args s 0 0 (fun q => b ≤ q)) (F0 m 45 ls [.int t0, .int t1, .ref (b + 111)]) := by
  obtain ⟨hX, hr, hlk, hK, hE⟩ := id C0
  have hx := hX.1
  have hb := hX.2.1
  have hown := hX.2.2.2.1
  have hts := hX.2.2.2.2
  intro t0 t1 I H locs ls hq hH hl
  unfold v_X6_addTurn_45 at hq
  refine lv_iadd hx hb dX6_addTurn_45 ?_
  refine w_puti hX hK hH ck6 sh111 12 fw6_12 q4_85 dX6_addTurn_46 (fun I1 H locs hI hH => ?_)
  have hq := hq I1 hI
  exact w_eV hX hr hlk hH hq dX6_addTurn_49
set_option maxRecDepth 100000 in
set_option maxHeartbeats 4000000 in
theorem s_X6_addTurn_20 {x1 : Int32} {Q : wI → Prop} (C0 : wCx p m c s args meth cX6_addTurn 2 RX6 none D cs ad b) : ∀  (I : wI) (H : Heap) (locs : List Loc) (ls : Array Slot), v_X6_addTurn_20 x1 Q  I → wH D cs b G I s H locs → lv_has ls 2 [(0, .ref (b + 111)), (1, .int x1)] → W p l e rm_X6_addTurn s m args below meth c H locs 0 0 (MQ below (va_Qv (Q) (wPo D cs b G) (fun q => b ≤ q)) args s 0 0 (fun q => b ≤ q)) (F0 m 20 ls []) := by
  obtain ⟨hX, hr, hlk, hK, hE⟩ := id C0
  have hx := hX.1
  have hb := hX.2.1
  have hown := hX.2.2.2.1
  have hts := hX.2.2.2.2
  intro  I H locs ls hq hH hl
  unfold v_X6_addTurn_20 at hq
  refine lv_aload_n hx hb dX6_addTurn_20 rfl (lv_at hl 0 rfl) ?_
  refine lv_dup hx hb dX6_addTurn_21 rfl ?_
  refine w_geti hX hK hH ck6 sh111 11 fi6_11 q4_84 dX6_addTurn_22 ?_
  refine lv_iconst (v := 1) hx hb dX6_addTurn_25 (by decide) ?_
  refine lv_iadd hx hb dX6_addTurn_26 ?_
  refine w_puti hX hK hH ck6 sh111 11 fw6_11 q4_84 dX6_addTurn_27 (fun I1 H locs hI hH => ?_)
  have hq := hq I1 hI
  refine lv_aload_n hx hb dX6_addTurn_30 rfl (lv_at hl 0 rfl) ?_
  refine lv_dup hx hb dX6_addTurn_31 rfl ?_
  refine w_geti hX hK hH ck6 sh111 12 fi6_12 q4_85 dX6_addTurn_32 ?_
  refine lv_iload_n hx hb dX6_addTurn_35 rfl (lv_at hl 1 rfl) ?_
  refine lv_iconst (v := 5) hx hb dX6_addTurn_36 (by decide) ?_
  refine lv_icmp_ge (tgt := 44) hx hb dX6_addTurn_37 (by decide) (fun hc => ?_) (fun hc => ?_)
  · have hq := hq.1 hc
    refine lv_iconst (v := -1) hx hb dX6_addTurn_44 (by decide) ?_
    exact s_X6_addTurn_45  C0  (-1 : Int32) (I1 111 12) _ _ _ _ hq hH (lv_sub hl [] rfl)
  · have hq := hq.2 hc
    refine lv_iconst (v := 1) hx hb dX6_addTurn_40 (by decide) ?_
    refine lv_goto (tgt := 45) hx hb dX6_addTurn_41 (by decide) ?_
    exact s_X6_addTurn_45  C0  (1 : Int32) (I1 111 12) _ _ _ _ hq hH (lv_sub hl [] rfl)
set_option maxRecDepth 100000 in
set_option maxHeartbeats 4000000 in
theorem c_X6_addTurn {l : Launch} {D : va_G} {cs : wC4} {ad : Nat → Nat} {b : Nat} {G : wG} (x1 : Int32) (I : wI) (hp : pre_X6_addTurn x1 I) : Met l yX6_addTurn (ws_ yX6_addTurn cX6_addTurn 2 none) rm_X6_addTurn (va_Pc [.ref (b + 111), .int x1] (wPr D cs ad b G I)) (va_Qv (fun I' => post_X6_addTurn x1 I I') (wPo D cs b G) (fun q => b ≤ q)) 0 0 (fun q => b ≤ q) := by
  have hq := vc_X6_addTurn x1 I hp
  refine w_met (by decide) (Nat.le_of_ble_eq_true rfl) ?_
  intro p e s m below meth c hX hr hlk hK hE hH ls hl
  have C0 : wCx p m c s _ meth cX6_addTurn 2 RX6 none D cs ad b := ⟨hX, hr, hlk, hK, hE⟩
  have hX : CallFix p m c cX6_addTurn 2 s _ lw_all RX6 := hX
  have hx := hX.1
  have hb := hX.2.1
  have hown := hX.2.2.2.1
  have hts := hX.2.2.2.2
  have hl : lv_has ls 2 [(0, .ref (b + 111)), (1, .int x1)] := hl
  unfold v_X6_addTurn at hq
  refine lv_aload_n hx hb dX6_addTurn_0 rfl (lv_at hl 0 rfl) ?_
  refine w_geti hX hK hH ck6 sh111 11 fi6_11 q4_84 dX6_addTurn_1 ?_
  refine lv_sipush (v := 500) hx hb dX6_addTurn_4 (by decide) ?_
  refine lv_icmp_ge (tgt := 20) hx hb dX6_addTurn_7 (by decide) (fun hc => ?_) (fun hc => ?_)
  · have hq := hq.1 hc
    exact s_X6_addTurn_20  C0   _ _ _ _ hq hH (lv_sub hl [0, 1] rfl)
  · have hq := hq.2 hc
    refine lv_aload_n hx hb dX6_addTurn_10 rfl (lv_at hl 0 rfl) ?_
    refine w_getr hX hK hH ck6 sh111 10 7 118 fr6_10 rfl q4_83 dX6_addTurn_11 ?_
    refine lv_aload_n hx hb dX6_addTurn_14 rfl (lv_at hl 0 rfl) ?_
    refine w_geti hX hK hH ck6 sh111 11 fi6_11 q4_84 dX6_addTurn_15 ?_
    refine lv_iload_n hx hb dX6_addTurn_18 rfl (lv_at hl 1 rfl) ?_
    obtain ⟨hc, hq⟩ := hq
    refine w_iast hX hK hH (sf6_10 sh111) hc dX6_addTurn_19 (fun I1 H locs hI hH => ?_)
    have hq := hq I1 hI
    exact s_X6_addTurn_20  C0   _ _ _ _ hq hH (lv_sub hl [0, 1] rfl)
abbrev rm_X6_addAgain : Room := { frames := 1, cells := 0, slots := 0, locals := 21 }
theorem hd_X6_addAgain : yX6_addAgain.cls = RX6 ∧ yX6_addAgain.cls ≠ "java/lang/invoke/MethodHandle" ∧ yX6_addAgain.cls ≠ "java/lang/invoke/VarHandle" ∧ (parseMethodDescriptor yX6_addAgain.desc).map (fun d => d.parameters.length) = some 3 := by decide +kernel
set_option maxRecDepth 100000 in
set_option maxHeartbeats 4000000 in
theorem s_X6_addAgain_69 {x1 : Int32} {x2 : Int32} {x3 : Int32} {Q : wI → Prop} (C0 : wCx p m c s args meth cX6_addAgain 6 RX6 none D cs ad b) : ∀  (I : wI) (H : Heap) (locs : List Loc) (ls : Array Slot), v_X6_addAgain_69 x1 x2 x3 Q  I → wH D cs b G I s H locs → lv_has ls 6 [] → W p l e rm_X6_addAgain s m args below meth c H locs 0 0 (MQ below (va_Qv (Q) (wPo D cs b G) (fun q => b ≤ q)) args s 0 0 (fun q => b ≤ q)) (F0 m 69 ls []) := by
  obtain ⟨hX, hr, hlk, hK, hE⟩ := id C0
  have hx := hX.1
  have hb := hX.2.1
  have hown := hX.2.2.2.1
  have hts := hX.2.2.2.2
  intro  I H locs ls hq hH hl
  unfold v_X6_addAgain_69 at hq
  exact w_eV hX hr hlk hH hq dX6_addAgain_69
set_option maxRecDepth 100000 in
set_option maxHeartbeats 4000000 in
theorem s_X6_addAgain_60 {x1 : Int32} {x2 : Int32} {x3 : Int32} {Q : wI → Prop} {K3 : Int32 → wI → Prop} (C0 : wCx p m c s args meth cX6_addAgain 6 RX6 none D cs ad b) (hK3 : ∀ (v4 : Int32) (I : wI) (H : Heap) (locs : List Loc) (ls : Array Slot), K3 v4 I → wH D cs b G I s H locs → lv_has ls 6 [(0, .ref (b + 111)), (1, .int x1), (2, .int x2), (3, .int x3), (4, .int v4)] → W p l e rm_X6_addAgain s m args below meth c H locs 0 0 (MQ below (va_Qv (Q) (wPo D cs b G) (fun q => b ≤ q)) args s 0 0 (fun q => b ≤ q)) (F0 m 3 ls [])) : ∀ (v4 : Int32) (t0 : Int32) (I : wI) (H : Heap) (locs : List Loc) (ls : Array Slot), v_X6_addAgain_60 x1 x2 x3 Q K3 v4 t0 I → wH D cs b G I s H locs → lv_has ls 6 [(0, .ref (b + 111)), (1, .int x1), (2, .int x2), (3, .int x3), (4, .int v4)] → W p l e rm_X6_addAgain s m args below meth c H locs 0 0 (MQ below (va_Qv (Q) (wPo D cs b G) (fun q => b ≤ q)) args s 0 0 (fun q => b ≤ q)) (F0 m 60 ls [.int t0, .ref (b + 111)]) := by
  obtain ⟨hX, hr, hlk, hK, hE⟩ := id C0
  have hx := hX.1
  have hb := hX.2.1
  have hown := hX.2.2.2.1
  have hts := hX.2.2.2.2
  intro v4 t0 I H locs ls hq hH hl
  unfold v_X6_addAgain_60 at hq
  obtain ⟨hp, hq⟩ := hq
  refine w_cV hH (w_rV (As := [.int t0]) (rest := []) hX hK hE hH (c_X6_addTurn  _ _ hp) ck6 sh111 q4_234 q4_236 qs44 q1_7 q4_237 hd_X6_addTurn ⟨Nat.le_of_ble_eq_true rfl, Nat.le_of_ble_eq_true rfl⟩ ⟨rfl, rfl⟩ rfl hl.1 rfl (Nat.le_of_ble_eq_true rfl) dX6_addAgain_60 ⟨Nat.zero_le _, Nat.zero_le _⟩) (fun  I1 H locs hpo hH => ?_)
  have hq := hq  I1 hpo
  refine lv_iinc (v := (v4 + (1 : Int32))) (lv' := [(4, .int (v4 + (1 : Int32))), (0, .ref (b + 111)), (1, .int x1), (2, .int x2), (3, .int x3)]) hx hb dX6_addAgain_63 hl (k := 4) rfl rfl (by decide) rfl (fun ls hl => ?_)
  refine lv_goto (tgt := 3) hx hb dX6_addAgain_66 (by decide) ?_
  exact hK3 (v4 + (1 : Int32)) _ _ _ _ hq hH (lv_sub hl [1, 2, 3, 4, 0] rfl)
set_option maxRecDepth 100000 in
set_option maxHeartbeats 4000000 in
theorem s_X6_addAgain_40 {x1 : Int32} {x2 : Int32} {x3 : Int32} {Q : wI → Prop} {K3 : Int32 → wI → Prop} (C0 : wCx p m c s args meth cX6_addAgain 6 RX6 none D cs ad b) (hK3 : ∀ (v4 : Int32) (I : wI) (H : Heap) (locs : List Loc) (ls : Array Slot), K3 v4 I → wH D cs b G I s H locs → lv_has ls 6 [(0, .ref (b + 111)), (1, .int x1), (2, .int x2), (3, .int x3), (4, .int v4)] → W p l e rm_X6_addAgain s m args below meth c H locs 0 0 (MQ below (va_Qv (Q) (wPo D cs b G) (fun q => b ≤ q)) args s 0 0 (fun q => b ≤ q)) (F0 m 3 ls [])) : ∀ (v4 : Int32) (t0 : Int32) (I : wI) (H : Heap) (locs : List Loc) (ls : Array Slot), v_X6_addAgain_40 x1 x2 x3 Q K3 v4 t0 I → wH D cs b G I s H locs → lv_has ls 6 [(0, .ref (b + 111)), (1, .int x1), (2, .int x2), (3, .int x3), (4, .int v4)] → W p l e rm_X6_addAgain s m args below meth c H locs 0 0 (MQ below (va_Qv (Q) (wPo D cs b G) (fun q => b ≤ q)) args s 0 0 (fun q => b ≤ q)) (F0 m 40 ls [.int t0, .ref (b + 118)]) := by
  obtain ⟨hX, hr, hlk, hK, hE⟩ := id C0
  have hx := hX.1
  have hb := hX.2.1
  have hown := hX.2.2.2.1
  have hts := hX.2.2.2.2
  intro v4 t0 I H locs ls hq hH hl
  unfold v_X6_addAgain_40 at hq
  obtain ⟨hc, hq⟩ := hq
  refine w_iald hX hK hH (sf6_10 sh111) hc dX6_addAgain_40 ?_
  refine lv_istore (lv' := [(5, .int (I 118 (t0).toNatClampNeg)), (0, .ref (b + 111)), (1, .int x1), (2, .int x2), (3, .int x3), (4, .int v4)]) hx hb dX6_addAgain_41 hl (by decide) rfl (fun ls hl => ?_)
  refine lv_aload_n hx hb dX6_addAgain_43 rfl (lv_at hl 1 rfl) ?_
  refine lv_iload_n hx hb dX6_addAgain_44 rfl (lv_at hl 4 rfl) ?_
  refine lv_if_eq (tgt := 58) hx hb dX6_addAgain_45 (by decide) (fun hc => ?_) (fun hc => ?_)
  · have hq := hq.1 hc
    refine lv_iload hx hb dX6_addAgain_58 (lv_at hl 0 rfl) ?_
    exact s_X6_addAgain_60  C0 hK3 v4 (I 118 (t0).toNatClampNeg) _ _ _ _ hq hH (lv_sub hl [1, 2, 3, 4, 5] rfl)
  · have hq := hq.2 hc
    refine lv_iload hx hb dX6_addAgain_48 (lv_at hl 0 rfl) ?_
    refine lv_iconst (v := 5) hx hb dX6_addAgain_50 (by decide) ?_
    refine lv_iadd hx hb dX6_addAgain_51 ?_
    refine lv_bipush (v := 10) hx hb dX6_addAgain_52 (by decide) ?_
    refine lv_irem hx hb dX6_addAgain_54 (by decide) ?_
    refine lv_goto (tgt := 60) hx hb dX6_addAgain_55 (by decide) ?_
    exact s_X6_addAgain_60  C0 hK3 v4 (((I 118 (t0).toNatClampNeg) + (5 : Int32)) - ((I 118 (t0).toNatClampNeg) + (5 : Int32)) / (10 : Int32) * (10 : Int32)) _ _ _ _ hq hH (lv_sub hl [1, 2, 3, 4, 5] rfl)
set_option maxRecDepth 100000 in
set_option maxHeartbeats 4000000 in
theorem s_X6_addAgain_3 {x1 : Int32} {x2 : Int32} {x3 : Int32} {Q : wI → Prop} (C0 : wCx p m c s args meth cX6_addAgain 6 RX6 none D cs ad b) : ∀ (f : Nat) (v4 : Int32) (I : wI) (H : Heap) (locs : List Loc) (ls : Array Slot), v_X6_addAgain_3 x1 x2 x3 Q f v4 I → wH D cs b G I s H locs → lv_has ls 6 [(0, .ref (b + 111)), (1, .int x1), (2, .int x2), (3, .int x3), (4, .int v4)] → W p l e rm_X6_addAgain s m args below meth c H locs 0 0 (MQ below (va_Qv (Q) (wPo D cs b G) (fun q => b ≤ q)) args s 0 0 (fun q => b ≤ q)) (F0 m 3 ls []) := by
  obtain ⟨hX, hr, hlk, hK, hE⟩ := id C0
  have hx := hX.1
  have hb := hX.2.1
  have hown := hX.2.2.2.1
  have hts := hX.2.2.2.2
  intro f
  induction f with
  | zero =>
    intro v4 I H locs ls hq
    exact hq.elim
  | succ f hK3 =>
    intro v4 I H locs ls hq hH hl
    have hq : g_X6_addAgain_3 x1 x2 x3 Q (v_X6_addAgain_3 x1 x2 x3 Q f) v4 I := hq
    unfold g_X6_addAgain_3 at hq
    refine lv_iload hx hb dX6_addAgain_3 (lv_at hl 4 rfl) ?_
    refine lv_iload_n hx hb dX6_addAgain_5 rfl (lv_at hl 2 rfl) ?_
    refine lv_icmp_ge (tgt := 69) hx hb dX6_addAgain_6 (by decide) (fun hc => ?_) (fun hc => ?_)
    · have hq := hq.1 hc
      exact s_X6_addAgain_69  C0   _ _ _ _ hq hH (lv_sub hl [] rfl)
    · have hq := hq.2 hc
      refine lv_aload_n hx hb dX6_addAgain_9 rfl (lv_at hl 0 rfl) ?_
      refine w_geti hX hK hH ck6 sh111 11 fi6_11 q4_84 dX6_addAgain_10 ?_
      refine lv_sipush (v := 500) hx hb dX6_addAgain_13 (by decide) ?_
      refine lv_icmp_gt (tgt := 69) hx hb dX6_addAgain_16 (by decide) (fun hc => ?_) (fun hc => ?_)
      · have hq := hq.1 hc
        exact s_X6_addAgain_69  C0   _ _ _ _ hq hH (lv_sub hl [] rfl)
      · have hq := hq.2 hc
        refine lv_aload_n hx hb dX6_addAgain_19 rfl (lv_at hl 0 rfl) ?_
        refine w_getr hX hK hH ck6 sh111 10 7 118 fr6_10 rfl q4_83 dX6_addAgain_20 ?_
        refine lv_iload_n hx hb dX6_addAgain_23 rfl (lv_at hl 3 rfl) ?_
        refine lv_if_eq (tgt := 38) hx hb dX6_addAgain_24 (by decide) (fun hc => ?_) (fun hc => ?_)
        · have hq := hq.1 hc
          refine lv_iload hx hb dX6_addAgain_38 (lv_at hl 4 rfl) ?_
          exact s_X6_addAgain_40  C0 hK3 v4 v4 _ _ _ _ hq hH (lv_sub hl [0, 1, 2, 3, 4] rfl)
        · have hq := hq.2 hc
          refine lv_iload_n hx hb dX6_addAgain_27 rfl (lv_at hl 1 rfl) ?_
          refine lv_iload_n hx hb dX6_addAgain_28 rfl (lv_at hl 2 rfl) ?_
          refine lv_iadd hx hb dX6_addAgain_29 ?_
          refine lv_iconst (v := 1) hx hb dX6_addAgain_30 (by decide) ?_
          refine lv_isub hx hb dX6_addAgain_31 ?_
          refine lv_iload hx hb dX6_addAgain_32 (lv_at hl 4 rfl) ?_
          refine lv_isub hx hb dX6_addAgain_34 ?_
          refine lv_goto (tgt := 40) hx hb dX6_addAgain_35 (by decide) ?_
          exact s_X6_addAgain_40  C0 hK3 v4 (((x1 + x2) - (1 : Int32)) - v4) _ _ _ _ hq hH (lv_sub hl [0, 1, 2, 3, 4] rfl)
set_option maxRecDepth 100000 in
set_option maxHeartbeats 4000000 in
theorem c_X6_addAgain {l : Launch} {D : va_G} {cs : wC4} {ad : Nat → Nat} {b : Nat} {G : wG} (x1 : Int32) (x2 : Int32) (x3 : Int32) (I : wI) (hp : pre_X6_addAgain x1 x2 x3 I) : Met l yX6_addAgain (ws_ yX6_addAgain cX6_addAgain 6 none) rm_X6_addAgain (va_Pc [.ref (b + 111), .int x1, .int x2, .int x3] (wPr D cs ad b G I)) (va_Qv (fun I' => post_X6_addAgain x1 x2 x3 I I') (wPo D cs b G) (fun q => b ≤ q)) 0 0 (fun q => b ≤ q) := by
  have hq := vc_X6_addAgain x1 x2 x3 I hp
  refine w_met (by decide) (Nat.le_of_ble_eq_true rfl) ?_
  intro p e s m below meth c hX hr hlk hK hE hH ls hl
  have C0 : wCx p m c s _ meth cX6_addAgain 6 RX6 none D cs ad b := ⟨hX, hr, hlk, hK, hE⟩
  have hX : CallFix p m c cX6_addAgain 6 s _ lw_all RX6 := hX
  have hx := hX.1
  have hb := hX.2.1
  have hown := hX.2.2.2.1
  have hts := hX.2.2.2.2
  have hl : lv_has ls 6 [(0, .ref (b + 111)), (1, .int x1), (2, .int x2), (3, .int x3)] := hl
  unfold v_X6_addAgain at hq
  refine lv_iload_n hx hb dX6_addAgain_0 rfl (lv_at hl 1 rfl) ?_
  refine lv_istore (lv' := [(4, .int x1), (0, .ref (b + 111)), (1, .int x1), (2, .int x2), (3, .int x3)]) hx hb dX6_addAgain_1 hl (by decide) rfl (fun ls hl => ?_)
  obtain ⟨f, hq⟩ := hq
  exact s_X6_addAgain_3  C0  f x1 _ _ _ _ hq hH (lv_sub hl [1, 2, 3, 4, 0] rfl)
end
