section
variable {p : Program} {l : Launch} {e : Env} {s : State} {m : MethodId} {args : Array Value} {below : List Frame} {meth : Method} {c : Code} {D : va_G} {cs : wC4} {ad : Nat → Nat} {b : Nat} {G : wG}
abbrev rm_X5_ifTurned : Room := { frames := 9, cells := 0, slots := 0, locals := 140 }
theorem hd_X5_ifTurned : yX5_ifTurned.cls = RX5 ∧ yX5_ifTurned.cls ≠ "java/lang/invoke/MethodHandle" ∧ yX5_ifTurned.cls ≠ "java/lang/invoke/VarHandle" ∧ (parseMethodDescriptor yX5_ifTurned.desc).map (fun d => d.parameters.length) = some 2 := by decide +kernel
set_option maxRecDepth 100000 in
set_option maxHeartbeats 4000000 in
theorem s_X5_ifTurned_59 {x1 : Int32} {x2 : Int32} {Q : Int32 → wI → Prop} (C0 : wCx p m c s args meth cX5_ifTurned 3 RX5 (some .int) D cs ad b) : ∀ (t0 : Int32) (t1 : Int32) (I : wI) (H : Heap) (locs : List Loc) (ls : Array Slot), v_X5_ifTurned_59 x1 x2 Q t0 t1 I → wH D cs b G I s H locs → lv_has ls 3 [(0, .ref (b + 0))] → W p l e rm_X5_ifTurned s m args below meth c H locs 0 0 (MQ below (va_Qi (Q) (wPo D cs b G) (fun q => b ≤ q)) args s 0 0 (fun q => b ≤ q)) (F0 m 59 ls [.int t0, .int t1, .ref (b + 33), .ref (b + 5)]) := by
  obtain ⟨hX, hr, hlk, hK, hE⟩ := id C0
  have hx := hX.1
  have hb := hX.2.1
  have hown := hX.2.2.2.1
  have hts := hX.2.2.2.2
  intro t0 t1 I H locs ls hq hH hl
  unfold v_X5_ifTurned_59 at hq
  obtain ⟨hp, hq⟩ := hq
  refine w_cIp hH (w_rS (As := [.int t1, .int t0]) (rest := [.ref (b + 33), .ref (b + 5)]) hX hK hE hH (c_X5_moveOf  _ _ _ hp) q2_81 q2_54 q1_1 q2_55 hd_X5_moveOf.2 ⟨Nat.le_of_ble_eq_true rfl, Nat.le_of_ble_eq_true rfl⟩ ⟨rfl, rfl⟩ rfl hl.1 rfl (Nat.le_of_ble_eq_true rfl) dX5_ifTurned_59 ⟨Nat.zero_le _, Nat.zero_le _⟩) (fun r1  H locs hpo hH => ?_)
  have hq := hq r1  hpo
  obtain ⟨hp, hq⟩ := hq
  refine w_cV hH (w_rV (As := [.ref (b + 33), .int r1]) (rest := []) hX hK hE hH (c_X1_move (sf3_1 (sf5_0 sh0)) (sf5_7 sh0) _ _ hp) ck1 (sf3_1 (sf5_0 sh0)) q2_94 q2_95 q2_96 q1_4 q2_97 hd_X1_move ⟨Nat.le_of_ble_eq_true rfl, Nat.le_of_ble_eq_true rfl⟩ ⟨rfl, rfl⟩ rfl hl.1 rfl (Nat.le_of_ble_eq_true rfl) dX5_ifTurned_62 ⟨Nat.zero_le _, Nat.zero_le _⟩) (fun  I2 H locs hpo hH => ?_)
  have hq := hq  I2 hpo
  refine lv_aload_n hx hb dX5_ifTurned_65 rfl (lv_at hl 0 rfl) ?_
  refine w_getr hX hK hH ck5 sh0 0 1 1 fr5_0 rfl q1_178 dX5_ifTurned_66 ?_
  refine lv_aload_n hx hb dX5_ifTurned_69 rfl (lv_at hl 0 rfl) ?_
  refine w_getr hX hK hH ck5 sh0 7 33 33 fr5_7 rfl q1_185 dX5_ifTurned_70 ?_
  obtain ⟨hp, hq⟩ := hq
  refine w_cIp hH (w_rV (As := [.ref (b + 33)]) (rest := []) hX hK hE hH (c_X3_asInSecret (sf5_0 sh0) (sf5_7 sh0)  _ hp) ck3 (sf5_0 sh0) q2_116 q2_117 q2_118 q1_2 q2_119 hd_X3_asInSecret ⟨Nat.le_of_ble_eq_true rfl, Nat.le_of_ble_eq_true rfl⟩ ⟨rfl, rfl⟩ rfl hl.1 rfl (Nat.le_of_ble_eq_true rfl) dX5_ifTurned_73 ⟨Nat.zero_le _, Nat.zero_le _⟩) (fun r3  H locs hpo hH => ?_)
  have hq := hq r3  hpo
  exact w_eI hX hr hlk hH hq dX5_ifTurned_76
set_option maxRecDepth 100000 in
set_option maxHeartbeats 4000000 in
theorem s_X5_ifTurned_13 {x1 : Int32} {x2 : Int32} {Q : Int32 → wI → Prop} (C0 : wCx p m c s args meth cX5_ifTurned 3 RX5 (some .int) D cs ad b) : ∀  (I : wI) (H : Heap) (locs : List Loc) (ls : Array Slot), v_X5_ifTurned_13 x1 x2 Q  I → wH D cs b G I s H locs → lv_has ls 3 [] → W p l e rm_X5_ifTurned s m args below meth c H locs 0 0 (MQ below (va_Qi (Q) (wPo D cs b G) (fun q => b ≤ q)) args s 0 0 (fun q => b ≤ q)) (F0 m 13 ls []) := by
  obtain ⟨hX, hr, hlk, hK, hE⟩ := id C0
  have hx := hX.1
  have hb := hX.2.1
  have hown := hX.2.2.2.1
  have hts := hX.2.2.2.2
  intro  I H locs ls hq hH hl
  unfold v_X5_ifTurned_13 at hq
  exact hq.elim
set_option maxRecDepth 100000 in
set_option maxHeartbeats 4000000 in
theorem c_X5_ifTurned {l : Launch} {D : va_G} {cs : wC4} {ad : Nat → Nat} {b : Nat} {G : wG} (x1 : Int32) (x2 : Int32) (I : wI) (hp : pre_X5_ifTurned x1 x2 I) : Met l yX5_ifTurned (ws_ yX5_ifTurned cX5_ifTurned 3 (some .int)) rm_X5_ifTurned (va_Pc [.ref (b + 0), .int x1, .int x2] (wPr D cs ad b G I)) (va_Qi (fun r I' => post_X5_ifTurned x1 x2 I r I') (wPo D cs b G) (fun q => b ≤ q)) 0 0 (fun q => b ≤ q) := by
  have hq := vc_X5_ifTurned x1 x2 I hp
  refine w_met (by decide) (Nat.le_of_ble_eq_true rfl) ?_
  intro p e s m below meth c hX hr hlk hK hE hH ls hl
  have C0 : wCx p m c s _ meth cX5_ifTurned 3 RX5 (some .int) D cs ad b := ⟨hX, hr, hlk, hK, hE⟩
  have hX : CallFix p m c cX5_ifTurned 3 s _ lw_all RX5 := hX
  have hx := hX.1
  have hb := hX.2.1
  have hown := hX.2.2.2.1
  have hts := hX.2.2.2.2
  have hl : lv_has ls 3 [(0, .ref (b + 0)), (1, .int x1), (2, .int x2)] := hl
  unfold v_X5_ifTurned at hq
  refine lv_iload_n hx hb dX5_ifTurned_0 rfl (lv_at hl 1 rfl) ?_
  obtain ⟨hp, hq⟩ := hq
  refine w_cVp hH (w_rS (As := [.int x1]) (rest := []) hX hK hE hH (c_X5_requireKey  _ _ hp) q3_40 q3_41 q1_1 q3_42 hd_X5_requireKey.2 ⟨Nat.le_of_ble_eq_true rfl, Nat.le_of_ble_eq_true rfl⟩ ⟨rfl, rfl⟩ rfl hl.1 rfl (Nat.le_of_ble_eq_true rfl) dX5_ifTurned_1 ⟨Nat.zero_le _, Nat.zero_le _⟩) (fun   H locs hpo hH => ?_)
  have hq := hq   hpo
  refine lv_iload_n hx hb dX5_ifTurned_4 rfl (lv_at hl 2 rfl) ?_
  refine lv_if_lt (tgt := 13) hx hb dX5_ifTurned_5 (by decide) (fun hc => ?_) (fun hc => ?_)
  · have hq := hq.1 hc
    exact s_X5_ifTurned_13  C0   _ _ _ _ hq hH (lv_sub hl [] rfl)
  · have hq := hq.2 hc
    refine lv_iload_n hx hb dX5_ifTurned_8 rfl (lv_at hl 2 rfl) ?_
    refine lv_iconst (v := 1) hx hb dX5_ifTurned_9 (by decide) ?_
    refine lv_icmp_le (tgt := 23) hx hb dX5_ifTurned_10 (by decide) (fun hc => ?_) (fun hc => ?_)
    · have hq := hq.1 hc
      refine lv_aload_n hx hb dX5_ifTurned_23 rfl (lv_at hl 0 rfl) ?_
      refine w_getr hX hK hH ck5 sh0 7 33 33 fr5_7 rfl q1_185 dX5_ifTurned_24 ?_
      refine lv_aload_n hx hb dX5_ifTurned_27 rfl (lv_at hl 0 rfl) ?_
      refine w_getr hX hK hH ck5 sh0 0 1 1 fr5_0 rfl q1_178 dX5_ifTurned_28 ?_
      refine w_getrN hX hK hE hH ck3 (sf5_0 sh0) 0 1 2 fr3_0 rfl qn1_61 dX5_ifTurned_31 ?_
      obtain ⟨hp, hq⟩ := hq
      refine w_cV hH (w_rV (As := [.ref (b + 2)]) (rest := []) hX hK hE hH (c_X0_copyFrom (sf5_7 sh0) (sf3_0 (sf5_0 sh0))  _ hp) ck0 (sf5_7 sh0) q2_12 q1_227 q1_228 q1_3 q1_229 hd_X0_copyFrom ⟨Nat.le_of_ble_eq_true rfl, Nat.le_of_ble_eq_true rfl⟩ ⟨rfl, rfl⟩ rfl hl.1 rfl (Nat.le_of_ble_eq_true rfl) dX5_ifTurned_34 ⟨Nat.zero_le _, Nat.zero_le _⟩) (fun  I1 H locs hpo hH => ?_)
      have hq := hq  I1 hpo
      refine lv_aload_n hx hb dX5_ifTurned_37 rfl (lv_at hl 0 rfl) ?_
      refine w_getr hX hK hH ck5 sh0 0 1 1 fr5_0 rfl q1_178 dX5_ifTurned_38 ?_
      refine w_getrN hX hK hE hH ck3 (sf5_0 sh0) 1 4 5 fr3_1 rfl qn1_64 dX5_ifTurned_41 ?_
      refine lv_aload_n hx hb dX5_ifTurned_44 rfl (lv_at hl 0 rfl) ?_
      refine w_getr hX hK hH ck5 sh0 7 33 33 fr5_7 rfl q1_185 dX5_ifTurned_45 ?_
      refine lv_iload_n hx hb dX5_ifTurned_48 rfl (lv_at hl 1 rfl) ?_
      refine lv_iload_n hx hb dX5_ifTurned_49 rfl (lv_at hl 2 rfl) ?_
      refine lv_iconst (v := 1) hx hb dX5_ifTurned_50 (by decide) ?_
      refine lv_icmp_ne (tgt := 58) hx hb dX5_ifTurned_51 (by decide) (fun hc => ?_) (fun hc => ?_)
      · have hq := hq.1 hc
        refine lv_iconst (v := 0) hx hb dX5_ifTurned_58 (by decide) ?_
        exact s_X5_ifTurned_59  C0  (0 : Int32) x1 _ _ _ _ hq hH (lv_sub hl [0] rfl)
      · have hq := hq.2 hc
        refine lv_iconst (v := 1) hx hb dX5_ifTurned_54 (by decide) ?_
        refine lv_goto (tgt := 59) hx hb dX5_ifTurned_55 (by decide) ?_
        exact s_X5_ifTurned_59  C0  (1 : Int32) x1 _ _ _ _ hq hH (lv_sub hl [0] rfl)
    · have hq := hq.2 hc
      exact s_X5_ifTurned_13  C0   _ _ _ _ hq hH (lv_sub hl [] rfl)
abbrev rm_X5_ifTurnedx : Room := { frames := 9, cells := 1, slots := 6, locals := 140 }

set_option maxRecDepth 100000 in
set_option maxHeartbeats 4000000 in
theorem s_X5_ifTurnedx_59 {x1 : Int32} {x2 : Int32} {X : String → wI → Prop} (hst : l.stackTraces = false) (hEx : ∀ x ∈ c.exceptionTable.toList, False) (C0 : wCx p m c s args meth cX5_ifTurned 3 RX5 (some .int) D cs ad b) : ∀ (t0 : Int32) (t1 : Int32) (I : wI) (H : Heap) (locs : List Loc) (ls : Array Slot), v_X5_ifTurnedx_59 x1 x2 X t0 t1 I → wH D cs b G I s H locs → lv_has ls 3 [(0, .ref (b + 0))] → W p l e rm_X5_ifTurnedx s m args below meth c H locs 0 0 (vx_MQ below (va_Qi (fun (_ : Int32) (_ : wI) => False) (wPo D cs b G) (fun q => b ≤ q)) (wXC D cs b G X) args s 1 6 (fun q => b ≤ q)) (F0 m 59 ls [.int t0, .int t1, .ref (b + 33), .ref (b + 5)]) := by
  obtain ⟨hX, hr, hlk, hK, hE⟩ := id C0
  have hx := hX.1
  have hb := hX.2.1
  have hown := hX.2.2.2.1
  have hts := hX.2.2.2.2
  intro t0 t1 I H locs ls hq hH hl
  unfold v_X5_ifTurnedx_59 at hq
  obtain ⟨hp, hq⟩ := hq
  refine w_cIp hH (w_rS (As := [.int t1, .int t0]) (rest := [.ref (b + 33), .ref (b + 5)]) hX hK hE hH (c_X5_moveOf  _ _ _ hp) q2_81 q2_54 q1_1 q2_55 hd_X5_moveOf.2 ⟨Nat.le_of_ble_eq_true rfl, Nat.le_of_ble_eq_true rfl⟩ ⟨rfl, rfl⟩ rfl hl.1 rfl (Nat.le_of_ble_eq_true rfl) dX5_ifTurned_59 ⟨Nat.zero_le _, Nat.zero_le _⟩) (fun r1  H locs hpo hH => ?_)
  have hq := hq r1  hpo
  obtain ⟨hp, hq⟩ := hq
  refine w_cV hH (w_rV (As := [.ref (b + 33), .int r1]) (rest := []) hX hK hE hH (c_X1_move (sf3_1 (sf5_0 sh0)) (sf5_7 sh0) _ _ hp) ck1 (sf3_1 (sf5_0 sh0)) q2_94 q2_95 q2_96 q1_4 q2_97 hd_X1_move ⟨Nat.le_of_ble_eq_true rfl, Nat.le_of_ble_eq_true rfl⟩ ⟨rfl, rfl⟩ rfl hl.1 rfl (Nat.le_of_ble_eq_true rfl) dX5_ifTurned_62 ⟨Nat.zero_le _, Nat.zero_le _⟩) (fun  I2 H locs hpo hH => ?_)
  have hq := hq  I2 hpo
  refine lv_aload_n hx hb dX5_ifTurned_65 rfl (lv_at hl 0 rfl) ?_
  refine w_getr hX hK hH ck5 sh0 0 1 1 fr5_0 rfl q1_178 dX5_ifTurned_66 ?_
  refine lv_aload_n hx hb dX5_ifTurned_69 rfl (lv_at hl 0 rfl) ?_
  refine w_getr hX hK hH ck5 sh0 7 33 33 fr5_7 rfl q1_185 dX5_ifTurned_70 ?_
  obtain ⟨hp, hq⟩ := hq
  refine w_cIp hH (w_rV (As := [.ref (b + 33)]) (rest := []) hX hK hE hH (c_X3_asInSecret (sf5_0 sh0) (sf5_7 sh0)  _ hp) ck3 (sf5_0 sh0) q2_116 q2_117 q2_118 q1_2 q2_119 hd_X3_asInSecret ⟨Nat.le_of_ble_eq_true rfl, Nat.le_of_ble_eq_true rfl⟩ ⟨rfl, rfl⟩ rfl hl.1 rfl (Nat.le_of_ble_eq_true rfl) dX5_ifTurned_73 ⟨Nat.zero_le _, Nat.zero_le _⟩) (fun r3  H locs hpo hH => ?_)
  have hq := hq r3  hpo
  exact hq.elim
set_option maxRecDepth 100000 in
set_option maxHeartbeats 4000000 in
theorem s_X5_ifTurnedx_13 {x1 : Int32} {x2 : Int32} {X : String → wI → Prop} (hst : l.stackTraces = false) (hEx : ∀ x ∈ c.exceptionTable.toList, False) (C0 : wCx p m c s args meth cX5_ifTurned 3 RX5 (some .int) D cs ad b) : ∀  (I : wI) (H : Heap) (locs : List Loc) (ls : Array Slot), v_X5_ifTurnedx_13 x1 x2 X  I → wH D cs b G I s H locs → lv_has ls 3 [] → W p l e rm_X5_ifTurnedx s m args below meth c H locs 0 0 (vx_MQ below (va_Qi (fun (_ : Int32) (_ : wI) => False) (wPo D cs b G) (fun q => b ≤ q)) (wXC D cs b G X) args s 1 6 (fun q => b ≤ q)) (F0 m 13 ls []) := by
  obtain ⟨hX, hr, hlk, hK, hE⟩ := id C0
  have hx := hX.1
  have hb := hX.2.1
  have hown := hX.2.2.2.1
  have hts := hX.2.2.2.2
  intro  I H locs ls hq hH hl
  unfold v_X5_ifTurnedx_13 at hq
  exact w_throw th_X5_66_246_70 hX hst hlk hEx hE hH hl.1 dX5_ifTurned_13 dX5_ifTurned_16 dX5_ifTurned_17 dX5_ifTurned_19 dX5_ifTurned_22 ⟨Nat.le_of_ble_eq_true rfl, Nat.le_of_ble_eq_true rfl, Nat.le_of_ble_eq_true rfl, Nat.le_of_ble_eq_true rfl⟩ hq
set_option maxRecDepth 100000 in
set_option maxHeartbeats 4000000 in
theorem c_X5_ifTurnedx {l : Launch} {D : va_G} {cs : wC4} {ad : Nat → Nat} {b : Nat} {G : wG} (hst : l.stackTraces = false) (x1 : Int32) (x2 : Int32) (I : wI) (hp : pre_X5_ifTurnedx x1 x2 I) : vx_Met l yX5_ifTurned (ws_ yX5_ifTurned cX5_ifTurned 3 (some .int)) rm_X5_ifTurnedx (va_Pc [.ref (b + 0), .int x1, .int x2] (wPr D cs ad b G I)) (va_Qi (fun (_ : Int32) (_ : wI) => False) (wPo D cs b G) (fun q => b ≤ q)) (wXC D cs b G (exc_X5_ifTurned x1 x2 I)) 1 6 (fun q => b ≤ q) := by
  have hq := vc_X5_ifTurnedx x1 x2 I hp
  refine w_metx (by decide) (Nat.le_of_ble_eq_true rfl) ?_
  intro p e s m below meth c hX hr hlk hEx hK hE hH ls hl
  have C0 : wCx p m c s _ meth cX5_ifTurned 3 RX5 (some .int) D cs ad b := ⟨hX, hr, hlk, hK, hE⟩
  have hX : CallFix p m c cX5_ifTurned 3 s _ lw_all RX5 := hX
  have hx := hX.1
  have hb := hX.2.1
  have hown := hX.2.2.2.1
  have hts := hX.2.2.2.2
  have hl : lv_has ls 3 [(0, .ref (b + 0)), (1, .int x1), (2, .int x2)] := hl
  unfold v_X5_ifTurnedx at hq
  refine lv_iload_n hx hb dX5_ifTurned_0 rfl (lv_at hl 1 rfl) ?_
  by_cases hok : ok_X5_requireKey x1 I
  · have hq := hq.1 hok
    obtain ⟨hp, hq⟩ := hq
    refine w_cVp hH (w_rS (As := [.int x1]) (rest := []) hX hK hE hH (c_X5_requireKey  _ _ hp) q3_40 q3_41 q1_1 q3_42 hd_X5_requireKey.2 ⟨Nat.le_of_ble_eq_true rfl, Nat.le_of_ble_eq_true rfl⟩ ⟨rfl, rfl⟩ rfl hl.1 rfl (Nat.le_of_ble_eq_true rfl) dX5_ifTurned_1 ⟨Nat.zero_le _, Nat.zero_le _⟩) (fun   H locs hpo hH => ?_)
    have hq := hq   hpo
    refine lv_iload_n hx hb dX5_ifTurned_4 rfl (lv_at hl 2 rfl) ?_
    refine lv_if_lt (tgt := 13) hx hb dX5_ifTurned_5 (by decide) (fun hc => ?_) (fun hc => ?_)
    · have hq := hq.1 hc
      exact s_X5_ifTurnedx_13 hst hEx C0   _ _ _ _ hq hH (lv_sub hl [] rfl)
    · have hq := hq.2 hc
      refine lv_iload_n hx hb dX5_ifTurned_8 rfl (lv_at hl 2 rfl) ?_
      refine lv_iconst (v := 1) hx hb dX5_ifTurned_9 (by decide) ?_
      refine lv_icmp_le (tgt := 23) hx hb dX5_ifTurned_10 (by decide) (fun hc => ?_) (fun hc => ?_)
      · have hq := hq.1 hc
        refine lv_aload_n hx hb dX5_ifTurned_23 rfl (lv_at hl 0 rfl) ?_
        refine w_getr hX hK hH ck5 sh0 7 33 33 fr5_7 rfl q1_185 dX5_ifTurned_24 ?_
        refine lv_aload_n hx hb dX5_ifTurned_27 rfl (lv_at hl 0 rfl) ?_
        refine w_getr hX hK hH ck5 sh0 0 1 1 fr5_0 rfl q1_178 dX5_ifTurned_28 ?_
        refine w_getrN hX hK hE hH ck3 (sf5_0 sh0) 0 1 2 fr3_0 rfl qn1_61 dX5_ifTurned_31 ?_
        obtain ⟨hp, hq⟩ := hq
        refine w_cV hH (w_rV (As := [.ref (b + 2)]) (rest := []) hX hK hE hH (c_X0_copyFrom (sf5_7 sh0) (sf3_0 (sf5_0 sh0))  _ hp) ck0 (sf5_7 sh0) q2_12 q1_227 q1_228 q1_3 q1_229 hd_X0_copyFrom ⟨Nat.le_of_ble_eq_true rfl, Nat.le_of_ble_eq_true rfl⟩ ⟨rfl, rfl⟩ rfl hl.1 rfl (Nat.le_of_ble_eq_true rfl) dX5_ifTurned_34 ⟨Nat.zero_le _, Nat.zero_le _⟩) (fun  I1 H locs hpo hH => ?_)
        have hq := hq  I1 hpo
        refine lv_aload_n hx hb dX5_ifTurned_37 rfl (lv_at hl 0 rfl) ?_
        refine w_getr hX hK hH ck5 sh0 0 1 1 fr5_0 rfl q1_178 dX5_ifTurned_38 ?_
        refine w_getrN hX hK hE hH ck3 (sf5_0 sh0) 1 4 5 fr3_1 rfl qn1_64 dX5_ifTurned_41 ?_
        refine lv_aload_n hx hb dX5_ifTurned_44 rfl (lv_at hl 0 rfl) ?_
        refine w_getr hX hK hH ck5 sh0 7 33 33 fr5_7 rfl q1_185 dX5_ifTurned_45 ?_
        refine lv_iload_n hx hb dX5_ifTurned_48 rfl (lv_at hl 1 rfl) ?_
        refine lv_iload_n hx hb dX5_ifTurned_49 rfl (lv_at hl 2 rfl) ?_
        refine lv_iconst (v := 1) hx hb dX5_ifTurned_50 (by decide) ?_
        refine lv_icmp_ne (tgt := 58) hx hb dX5_ifTurned_51 (by decide) (fun hc => ?_) (fun hc => ?_)
        · have hq := hq.1 hc
          refine lv_iconst (v := 0) hx hb dX5_ifTurned_58 (by decide) ?_
          exact s_X5_ifTurnedx_59 hst hEx C0  (0 : Int32) x1 _ _ _ _ hq hH (lv_sub hl [0] rfl)
        · have hq := hq.2 hc
          refine lv_iconst (v := 1) hx hb dX5_ifTurned_54 (by decide) ?_
          refine lv_goto (tgt := 59) hx hb dX5_ifTurned_55 (by decide) ?_
          exact s_X5_ifTurnedx_59 hst hEx C0  (1 : Int32) x1 _ _ _ _ hq hH (lv_sub hl [0] rfl)
      · have hq := hq.2 hc
        exact s_X5_ifTurnedx_13 hst hEx C0   _ _ _ _ hq hH (lv_sub hl [] rfl)
  · have hq := hq.2 hok
    obtain ⟨hp, hq⟩ := hq
    exact w_xV hEx hlk hH (w_xrS (As := [.int x1]) (rest := []) hX hK hE hH (c_X5_requireKeyx hst  _ _ hp) q3_40 q3_41 q1_1 q3_42 hd_X5_requireKey.2 ⟨Nat.le_of_ble_eq_true rfl, Nat.le_of_ble_eq_true rfl⟩ ⟨rfl, rfl⟩ rfl hl.1 rfl (Nat.le_of_ble_eq_true rfl) dX5_ifTurned_1 ⟨Nat.le_of_ble_eq_true rfl, Nat.le_of_ble_eq_true rfl⟩) (fun E u h => by obtain ⟨h1, h2⟩ := h; subst h1; exact hq E h2)
abbrev rm_X5_closest : Room := { frames := 3, cells := 0, slots := 0, locals := 76 }
theorem hd_X5_closest : yX5_closest.cls = RX5 ∧ yX5_closest.cls ≠ "java/lang/invoke/MethodHandle" ∧ yX5_closest.cls ≠ "java/lang/invoke/VarHandle" ∧ (parseMethodDescriptor yX5_closest.desc).map (fun d => d.parameters.length) = some 0 := by decide +kernel
set_option maxRecDepth 100000 in
set_option maxHeartbeats 4000000 in
theorem s_X5_closest_58 {Q : Int32 → wI → Prop} {K7 : Int32 → Int32 → Int32 → wI → Prop} {K17 : Int32 → Int32 → Int32 → Int32 → wI → Prop} (C0 : wCx p m c s args meth cX5_closest 6 RX5 (some .int) D cs ad b) (hK7 : ∀ (v1 : Int32) (v2 : Int32) (v3 : Int32) (I : wI) (H : Heap) (locs : List Loc) (ls : Array Slot), K7 v1 v2 v3 I → wH D cs b G I s H locs → lv_has ls 6 [(0, .ref (b + 0)), (1, .int v1), (2, .int v2), (3, .int v3)] → W p l e rm_X5_closest s m args below meth c H locs 0 0 (MQ below (va_Qi (Q) (wPo D cs b G) (fun q => b ≤ q)) args s 0 0 (fun q => b ≤ q)) (F0 m 7 ls [])) (hK17 : ∀ (v1 : Int32) (v2 : Int32) (v3 : Int32) (v4 : Int32) (I : wI) (H : Heap) (locs : List Loc) (ls : Array Slot), K17 v1 v2 v3 v4 I → wH D cs b G I s H locs → lv_has ls 6 [(0, .ref (b + 0)), (1, .int v1), (2, .int v2), (3, .int v3), (4, .int v4)] → W p l e rm_X5_closest s m args below meth c H locs 0 0 (MQ below (va_Qi (Q) (wPo D cs b G) (fun q => b ≤ q)) args s 0 0 (fun q => b ≤ q)) (F0 m 17 ls [])) : ∀ (v1 : Int32) (v2 : Int32) (v3 : Int32) (v4 : Int32) (I : wI) (H : Heap) (locs : List Loc) (ls : Array Slot), v_X5_closest_58 Q K7 K17 v1 v2 v3 v4 I → wH D cs b G I s H locs → lv_has ls 6 [(0, .ref (b + 0)), (1, .int v1), (2, .int v2), (3, .int v3), (4, .int v4)] → W p l e rm_X5_closest s m args below meth c H locs 0 0 (MQ below (va_Qi (Q) (wPo D cs b G) (fun q => b ≤ q)) args s 0 0 (fun q => b ≤ q)) (F0 m 58 ls []) := by
  obtain ⟨hX, hr, hlk, hK, hE⟩ := id C0
  have hx := hX.1
  have hb := hX.2.1
  have hown := hX.2.2.2.1
  have hts := hX.2.2.2.2
  intro v1 v2 v3 v4 I H locs ls hq hH hl
  unfold v_X5_closest_58 at hq
  refine lv_iinc (v := (v4 + (1 : Int32))) (lv' := [(4, .int (v4 + (1 : Int32))), (0, .ref (b + 0)), (1, .int v1), (2, .int v2), (3, .int v3)]) hx hb dX5_closest_58 hl (k := 4) rfl rfl (by decide) rfl (fun ls hl => ?_)
  refine lv_goto (tgt := 17) hx hb dX5_closest_61 (by decide) ?_
  exact hK17 v1 v2 v3 (v4 + (1 : Int32)) _ _ _ _ hq hH (lv_sub hl [1, 2, 3, 4, 0] rfl)
set_option maxRecDepth 100000 in
set_option maxHeartbeats 4000000 in
theorem s_X5_closest_17 {Q : Int32 → wI → Prop} {K7 : Int32 → Int32 → Int32 → wI → Prop} (C0 : wCx p m c s args meth cX5_closest 6 RX5 (some .int) D cs ad b) (hK7 : ∀ (v1 : Int32) (v2 : Int32) (v3 : Int32) (I : wI) (H : Heap) (locs : List Loc) (ls : Array Slot), K7 v1 v2 v3 I → wH D cs b G I s H locs → lv_has ls 6 [(0, .ref (b + 0)), (1, .int v1), (2, .int v2), (3, .int v3)] → W p l e rm_X5_closest s m args below meth c H locs 0 0 (MQ below (va_Qi (Q) (wPo D cs b G) (fun q => b ≤ q)) args s 0 0 (fun q => b ≤ q)) (F0 m 7 ls [])) : ∀ (f : Nat) (v1 : Int32) (v2 : Int32) (v3 : Int32) (v4 : Int32) (I : wI) (H : Heap) (locs : List Loc) (ls : Array Slot), v_X5_closest_17 Q K7 f v1 v2 v3 v4 I → wH D cs b G I s H locs → lv_has ls 6 [(0, .ref (b + 0)), (1, .int v1), (2, .int v2), (3, .int v3), (4, .int v4)] → W p l e rm_X5_closest s m args below meth c H locs 0 0 (MQ below (va_Qi (Q) (wPo D cs b G) (fun q => b ≤ q)) args s 0 0 (fun q => b ≤ q)) (F0 m 17 ls []) := by
  obtain ⟨hX, hr, hlk, hK, hE⟩ := id C0
  have hx := hX.1
  have hb := hX.2.1
  have hown := hX.2.2.2.1
  have hts := hX.2.2.2.2
  intro f
  induction f with
  | zero =>
    intro v1 v2 v3 v4 I H locs ls hq
    exact hq.elim
  | succ f hK17 =>
    intro v1 v2 v3 v4 I H locs ls hq hH hl
    have hq : g_X5_closest_17 Q K7 (v_X5_closest_17 Q K7 f) v1 v2 v3 v4 I := hq
    unfold g_X5_closest_17 at hq
    refine lv_iload hx hb dX5_closest_17 (lv_at hl 4 rfl) ?_
    refine lv_iconst (v := 5) hx hb dX5_closest_19 (by decide) ?_
    refine lv_icmp_ge (tgt := 64) hx hb dX5_closest_20 (by decide) (fun hc => ?_) (fun hc => ?_)
    · have hq := hq.1 hc
      refine lv_iinc (v := (v3 + (1 : Int32))) (lv' := [(3, .int (v3 + (1 : Int32))), (0, .ref (b + 0)), (1, .int v1), (2, .int v2), (4, .int v4)]) hx hb dX5_closest_64 hl (k := 3) rfl rfl (by decide) rfl (fun ls hl => ?_)
      refine lv_goto (tgt := 7) hx hb dX5_closest_67 (by decide) ?_
      exact hK7 v1 v2 (v3 + (1 : Int32)) _ _ _ _ hq hH (lv_sub hl [1, 2, 3, 0] rfl)
    · have hq := hq.2 hc
      refine lv_aload_n hx hb dX5_closest_23 rfl (lv_at hl 0 rfl) ?_
      refine lv_iload_n hx hb dX5_closest_24 rfl (lv_at hl 3 rfl) ?_
      refine lv_iload hx hb dX5_closest_25 (lv_at hl 4 rfl) ?_
      obtain ⟨hp, hq⟩ := hq
      refine w_cV hH (w_rV (As := [.int v3, .int v4]) (rest := []) hX hK hE hH (c_X5_showPair  _ _ _ hp) ck5 sh0 q2_90 q2_92 qs11 q1_1 q2_93 hd_X5_showPair ⟨Nat.le_of_ble_eq_true rfl, Nat.le_of_ble_eq_true rfl⟩ ⟨rfl, rfl⟩ rfl hl.1 rfl (Nat.le_of_ble_eq_true rfl) dX5_closest_27 ⟨Nat.zero_le _, Nat.zero_le _⟩) (fun  I1 H locs hpo hH => ?_)
      have hq := hq  I1 hpo
      refine lv_aload_n hx hb dX5_closest_30 rfl (lv_at hl 0 rfl) ?_
      refine w_getr hX hK hH ck5 sh0 6 30 30 fr5_6 rfl q1_184 dX5_closest_31 ?_
      obtain ⟨hp, hq⟩ := hq
      refine w_cIp hH (w_rV (As := []) (rest := []) hX hK hE hH (c_X0_reach (sf5_6 sh0)  _ hp) ck0 (sf5_6 sh0) q1_234 q1_235 q1_236 q1_3 q1_237 hd_X0_reach ⟨Nat.le_of_ble_eq_true rfl, Nat.le_of_ble_eq_true rfl⟩ ⟨rfl, rfl⟩ rfl hl.1 rfl (Nat.le_of_ble_eq_true rfl) dX5_closest_34 ⟨Nat.zero_le _, Nat.zero_le _⟩) (fun r2  H locs hpo hH => ?_)
      have hq := hq r2  hpo
      obtain ⟨hp, hq⟩ := hq
      refine w_cIp hH (w_rS (As := [.int r2]) (rest := []) hX hK hE hH (c_J_bitCount  _ _ hp) q1_238 q1_239 q1_13 q2_0 hd_J_bitCount.2 ⟨Nat.le_of_ble_eq_true rfl, Nat.le_of_ble_eq_true rfl⟩ ⟨rfl, rfl⟩ rfl hl.1 rfl (Nat.le_of_ble_eq_true rfl) dX5_closest_37 ⟨Nat.zero_le _, Nat.zero_le _⟩) (fun r3  H locs hpo hH => ?_)
      have hq := hq r3  hpo
      refine lv_istore (lv' := [(5, .int r3), (0, .ref (b + 0)), (1, .int v1), (2, .int v2), (3, .int v3), (4, .int v4)]) hx hb dX5_closest_40 hl (by decide) rfl (fun ls hl => ?_)
      refine lv_iload hx hb dX5_closest_42 (lv_at hl 0 rfl) ?_
      refine lv_iload_n hx hb dX5_closest_44 rfl (lv_at hl 3 rfl) ?_
      refine lv_icmp_ge (tgt := 58) hx hb dX5_closest_45 (by decide) (fun hc => ?_) (fun hc => ?_)
      · have hq := hq.1 hc
        exact s_X5_closest_58  C0 hK7 hK17 v1 v2 v3 v4 _ _ _ _ hq hH (lv_sub hl [1, 2, 3, 4, 5] rfl)
      · have hq := hq.2 hc
        refine lv_iload hx hb dX5_closest_48 (lv_at hl 0 rfl) ?_
        refine lv_istore_n (lv' := [(2, .int r3), (5, .int r3), (0, .ref (b + 0)), (1, .int v1), (3, .int v3), (4, .int v4)]) hx hb dX5_closest_50 rfl hl (by decide) rfl (fun ls hl => ?_)
        refine lv_iconst (v := 5) hx hb dX5_closest_51 (by decide) ?_
        refine lv_iload_n hx hb dX5_closest_52 rfl (lv_at hl 4 rfl) ?_
        refine lv_imul hx hb dX5_closest_53 ?_
        refine lv_iload hx hb dX5_closest_54 (lv_at hl 5 rfl) ?_
        refine lv_iadd hx hb dX5_closest_56 ?_
        refine lv_istore_n (lv' := [(1, .int (((5 : Int32) * v3) + v4)), (2, .int r3), (5, .int r3), (0, .ref (b + 0)), (3, .int v3), (4, .int v4)]) hx hb dX5_closest_57 rfl hl (by decide) rfl (fun ls hl => ?_)
        exact s_X5_closest_58  C0 hK7 hK17 (((5 : Int32) * v3) + v4) r3 v3 v4 _ _ _ _ hq hH (lv_sub hl [3, 0, 1, 4, 5] rfl)
set_option maxRecDepth 100000 in
set_option maxHeartbeats 4000000 in
theorem s_X5_closest_7 {Q : Int32 → wI → Prop} (C0 : wCx p m c s args meth cX5_closest 6 RX5 (some .int) D cs ad b) : ∀ (f : Nat) (v1 : Int32) (v2 : Int32) (v3 : Int32) (I : wI) (H : Heap) (locs : List Loc) (ls : Array Slot), v_X5_closest_7 Q f v1 v2 v3 I → wH D cs b G I s H locs → lv_has ls 6 [(0, .ref (b + 0)), (1, .int v1), (2, .int v2), (3, .int v3)] → W p l e rm_X5_closest s m args below meth c H locs 0 0 (MQ below (va_Qi (Q) (wPo D cs b G) (fun q => b ≤ q)) args s 0 0 (fun q => b ≤ q)) (F0 m 7 ls []) := by
  obtain ⟨hX, hr, hlk, hK, hE⟩ := id C0
  have hx := hX.1
  have hb := hX.2.1
  have hown := hX.2.2.2.1
  have hts := hX.2.2.2.2
  intro f
  induction f with
  | zero =>
    intro v1 v2 v3 I H locs ls hq
    exact hq.elim
  | succ f hK7 =>
    intro v1 v2 v3 I H locs ls hq hH hl
    have hq : g_X5_closest_7 Q (v_X5_closest_7 Q f) v1 v2 v3 I := hq
    unfold g_X5_closest_7 at hq
    refine lv_iload_n hx hb dX5_closest_7 rfl (lv_at hl 3 rfl) ?_
    refine lv_iconst (v := 5) hx hb dX5_closest_8 (by decide) ?_
    refine lv_icmp_ge (tgt := 70) hx hb dX5_closest_9 (by decide) (fun hc => ?_) (fun hc => ?_)
    · have hq := hq.1 hc
      refine lv_iload_n hx hb dX5_closest_70 rfl (lv_at hl 1 rfl) ?_
      exact w_eI hX hr hlk hH hq dX5_closest_71
    · have hq := hq.2 hc
      refine lv_iload_n hx hb dX5_closest_12 rfl (lv_at hl 3 rfl) ?_
      refine lv_iconst (v := 1) hx hb dX5_closest_13 (by decide) ?_
      refine lv_iadd hx hb dX5_closest_14 ?_
      refine lv_istore (lv' := [(4, .int (v3 + (1 : Int32))), (0, .ref (b + 0)), (1, .int v1), (2, .int v2), (3, .int v3)]) hx hb dX5_closest_15 hl (by decide) rfl (fun ls hl => ?_)
      obtain ⟨f, hq⟩ := hq
      exact s_X5_closest_17  C0 hK7 f v1 v2 v3 (v3 + (1 : Int32)) _ _ _ _ hq hH (lv_sub hl [1, 2, 3, 4, 0] rfl)
set_option maxRecDepth 100000 in
set_option maxHeartbeats 4000000 in
theorem c_X5_closest {l : Launch} {D : va_G} {cs : wC4} {ad : Nat → Nat} {b : Nat} {G : wG}  (I : wI) (hp : pre_X5_closest  I) : Met l yX5_closest (ws_ yX5_closest cX5_closest 6 (some .int)) rm_X5_closest (va_Pc [.ref (b + 0)] (wPr D cs ad b G I)) (va_Qi (fun r I' => post_X5_closest  I r I') (wPo D cs b G) (fun q => b ≤ q)) 0 0 (fun q => b ≤ q) := by
  have hq := vc_X5_closest  I hp
  refine w_met (by decide) (Nat.le_of_ble_eq_true rfl) ?_
  intro p e s m below meth c hX hr hlk hK hE hH ls hl
  have C0 : wCx p m c s _ meth cX5_closest 6 RX5 (some .int) D cs ad b := ⟨hX, hr, hlk, hK, hE⟩
  have hX : CallFix p m c cX5_closest 6 s _ lw_all RX5 := hX
  have hx := hX.1
  have hb := hX.2.1
  have hown := hX.2.2.2.1
  have hts := hX.2.2.2.2
  have hl : lv_has ls 6 [(0, .ref (b + 0))] := hl
  unfold v_X5_closest at hq
  refine lv_iconst (v := -1) hx hb dX5_closest_0 (by decide) ?_
  refine lv_istore_n (lv' := [(1, .int (-1 : Int32)), (0, .ref (b + 0))]) hx hb dX5_closest_1 rfl hl (by decide) rfl (fun ls hl => ?_)
  refine lv_bipush (v := 7) hx hb dX5_closest_2 (by decide) ?_
  refine lv_istore_n (lv' := [(2, .int (7 : Int32)), (1, .int (-1 : Int32)), (0, .ref (b + 0))]) hx hb dX5_closest_4 rfl hl (by decide) rfl (fun ls hl => ?_)
  refine lv_iconst (v := 0) hx hb dX5_closest_5 (by decide) ?_
  refine lv_istore_n (lv' := [(3, .int (0 : Int32)), (2, .int (7 : Int32)), (1, .int (-1 : Int32)), (0, .ref (b + 0))]) hx hb dX5_closest_6 rfl hl (by decide) rfl (fun ls hl => ?_)
  obtain ⟨f, hq⟩ := hq
  exact s_X5_closest_7  C0  f (-1 : Int32) (7 : Int32) (0 : Int32) _ _ _ _ hq hH (lv_sub hl [3, 2, 1, 0] rfl)
abbrev rm_X5_openShare : Room := { frames := 2, cells := 0, slots := 0, locals := 44 }
theorem hd_X5_openShare : yX5_openShare.cls = RX5 ∧ yX5_openShare.cls ≠ "java/lang/invoke/MethodHandle" ∧ yX5_openShare.cls ≠ "java/lang/invoke/VarHandle" ∧ (parseMethodDescriptor yX5_openShare.desc).map (fun d => d.parameters.length) = some 0 := by decide +kernel
set_option maxRecDepth 100000 in
set_option maxHeartbeats 4000000 in
theorem c_X5_openShare {l : Launch} {D : va_G} {cs : wC4} {ad : Nat → Nat} {b : Nat} {G : wG}  (I : wI) (hp : pre_X5_openShare  I) : Met l yX5_openShare (ws_ yX5_openShare cX5_openShare 1 (some .double)) rm_X5_openShare (va_Pc [.ref (b + 0)] (wPr D cs ad b G I)) (va_Qd (fun r I' => I' = I ∧ post_X5_openShare  I r) (wPo D cs b G) (fun q => b ≤ q)) 0 0 (fun q => b ≤ q) := by
  have hq := vc_X5_openShare  I hp
  refine w_met (by decide) (Nat.le_of_ble_eq_true rfl) ?_
  intro p e s m below meth c hX hr hlk hK hE hH ls hl
  have C0 : wCx p m c s _ meth cX5_openShare 1 RX5 (some .double) D cs ad b := ⟨hX, hr, hlk, hK, hE⟩
  have hX : CallFix p m c cX5_openShare 1 s _ lw_all RX5 := hX
  have hx := hX.1
  have hb := hX.2.1
  have hown := hX.2.2.2.1
  have hts := hX.2.2.2.2
  have hl : lv_has ls 1 [(0, .ref (b + 0))] := hl
  unfold v_X5_openShare at hq
  refine lv_aload_n hx hb dX5_openShare_0 rfl (lv_at hl 0 rfl) ?_
  refine w_getr hX hK hH ck5 sh0 0 1 1 fr5_0 rfl q1_178 dX5_openShare_1 ?_
  refine lv_aload_n hx hb dX5_openShare_4 rfl (lv_at hl 0 rfl) ?_
  refine w_getr hX hK hH ck5 sh0 0 1 1 fr5_0 rfl q1_178 dX5_openShare_5 ?_
  refine w_getrN hX hK hE hH ck3 (sf5_0 sh0) 0 1 2 fr3_0 rfl qn1_61 dX5_openShare_8 ?_
  obtain ⟨hp, hq⟩ := hq
  refine w_cIp hH (w_rV (As := [.ref (b + 2)]) (rest := []) hX hK hE hH (c_X3_asInSecret (sf5_0 sh0) (sf3_0 (sf5_0 sh0))  _ hp) ck3 (sf5_0 sh0) q2_116 q2_117 q2_118 q1_2 q2_119 hd_X3_asInSecret ⟨Nat.le_of_ble_eq_true rfl, Nat.le_of_ble_eq_true rfl⟩ ⟨rfl, rfl⟩ rfl hl.1 rfl (Nat.le_of_ble_eq_true rfl) dX5_openShare_11 ⟨Nat.zero_le _, Nat.zero_le _⟩) (fun r1  H locs hpo hH => ?_)
  have hq := hq r1  hpo
  refine lv_i2d hx hb dX5_openShare_14 ?_
  refine lv_ldc2d hx hb hown (hts _ q2_124) dX5_openShare_15 ?_
  obtain ⟨hc, hq⟩ := hq
  refine lv_ddiv hx hb dX5_openShare_18 hc ?_
  exact w_eD hX hr hlk hH ⟨rfl, hq⟩ dX5_openShare_19
abbrev rm_X5_meanNotch : Room := { frames := 1, cells := 0, slots := 0, locals := 22 }
theorem hd_X5_meanNotch : yX5_meanNotch.cls = RX5 ∧ yX5_meanNotch.cls ≠ "java/lang/invoke/MethodHandle" ∧ yX5_meanNotch.cls ≠ "java/lang/invoke/VarHandle" ∧ (parseMethodDescriptor yX5_meanNotch.desc).map (fun d => d.parameters.length) = some 0 := by decide +kernel
set_option maxRecDepth 100000 in
set_option maxHeartbeats 4000000 in
theorem c_X5_meanNotch {l : Launch} {D : va_G} {cs : wC4} {ad : Nat → Nat} {b : Nat} {G : wG}  (I : wI) (hp : pre_X5_meanNotch  I) : Met l yX5_meanNotch (ws_ yX5_meanNotch cX5_meanNotch 1 (some .float)) rm_X5_meanNotch (va_Pc [.ref (b + 0)] (wPr D cs ad b G I)) (va_Qf (fun r I' => I' = I ∧ post_X5_meanNotch  I r) (wPo D cs b G) (fun q => b ≤ q)) 0 0 (fun q => b ≤ q) := by
  have hq := vc_X5_meanNotch  I hp
  refine w_met (by decide) (Nat.le_of_ble_eq_true rfl) ?_
  intro p e s m below meth c hX hr hlk hK hE hH ls hl
  have C0 : wCx p m c s _ meth cX5_meanNotch 1 RX5 (some .float) D cs ad b := ⟨hX, hr, hlk, hK, hE⟩
  have hX : CallFix p m c cX5_meanNotch 1 s _ lw_all RX5 := hX
  have hx := hX.1
  have hb := hX.2.1
  have hown := hX.2.2.2.1
  have hts := hX.2.2.2.2
  have hl : lv_has ls 1 [(0, .ref (b + 0))] := hl
  unfold v_X5_meanNotch at hq
  refine lv_aload_n hx hb dX5_meanNotch_0 rfl (lv_at hl 0 rfl) ?_
  refine w_getr hX hK hH ck5 sh0 0 1 1 fr5_0 rfl q1_178 dX5_meanNotch_1 ?_
  refine w_getrN hX hK hE hH ck3 (sf5_0 sh0) 0 1 2 fr3_0 rfl qn1_61 dX5_meanNotch_4 ?_
  obtain ⟨hp, hq⟩ := hq
  refine w_cIp hH (w_rV (As := []) (rest := []) hX hK hE hH (c_X0_notchSum (sf3_0 (sf5_0 sh0))  _ hp) ck0 (sf3_0 (sf5_0 sh0)) q2_13 q2_14 q2_15 q1_3 q2_16 hd_X0_notchSum ⟨Nat.le_of_ble_eq_true rfl, Nat.le_of_ble_eq_true rfl⟩ ⟨rfl, rfl⟩ rfl hl.1 rfl (Nat.le_of_ble_eq_true rfl) dX5_meanNotch_7 ⟨Nat.zero_le _, Nat.zero_le _⟩) (fun r1  H locs hpo hH => ?_)
  have hq := hq r1  hpo
  refine lv_i2f hx hb dX5_meanNotch_10 ?_
  refine w_ldcfw hx hb hown (hts _ q2_129) dX5_meanNotch_11 ?_
  obtain ⟨hc, hq⟩ := hq
  refine lv_fdiv hx hb dX5_meanNotch_14 hc ?_
  exact w_eF hX hr hlk hH ⟨rfl, hq⟩ dX5_meanNotch_15
abbrev rm_X5_mix : Room := { frames := 0, cells := 0, slots := 0, locals := 0 }
theorem hd_X5_mix : yX5_mix.cls = RX5 ∧ yX5_mix.cls ≠ "java/lang/invoke/MethodHandle" ∧ yX5_mix.cls ≠ "java/lang/invoke/VarHandle" ∧ (parseMethodDescriptor yX5_mix.desc).map (fun d => d.parameters.length) = some 2 := by decide +kernel
set_option maxRecDepth 100000 in
set_option maxHeartbeats 4000000 in
theorem c_X5_mix {l : Launch} {D : va_G} {cs : wC4} {ad : Nat → Nat} {b : Nat} {G : wG} (x0 : Int64) (x2 : Int64) (I : wI) (hp : pre_X5_mix x0 x2 I) : Met l yX5_mix (ws_ yX5_mix cX5_mix 4 (some .long)) rm_X5_mix (va_Pc [.long x0, .long x2] (wPr D cs ad b G I)) (va_Ql (fun r I' => I' = I ∧ post_X5_mix x0 x2 I r) (wPo D cs b G) (fun q => b ≤ q)) 0 0 (fun q => b ≤ q) := by
  have hq := vc_X5_mix x0 x2 I hp
  refine w_met (by decide) (Nat.le_of_ble_eq_true rfl) ?_
  intro p e s m below meth c hX hr hlk hK hE hH ls hl
  have C0 : wCx p m c s _ meth cX5_mix 4 RX5 (some .long) D cs ad b := ⟨hX, hr, hlk, hK, hE⟩
  have hX : CallFix p m c cX5_mix 4 s _ lw_all RX5 := hX
  have hx := hX.1
  have hb := hX.2.1
  have hown := hX.2.2.2.1
  have hts := hX.2.2.2.2
  have hl : lv_has ls 4 [(0, .long x0), (2, .long x2)] := hl
  unfold v_X5_mix at hq
  refine lv_ldc2 hx hb hown (hts _ q2_225) dX5_mix_0 ?_
  refine lv_lload_n hx hb dX5_mix_3 rfl (lv_at hl 0 rfl) ?_
  refine lv_lmul hx hb dX5_mix_4 ?_
  refine lv_lload_n hx hb dX5_mix_5 rfl (lv_at hl 1 rfl) ?_
  refine lv_ladd hx hb dX5_mix_6 ?_
  exact w_eL hX hr hlk hH ⟨rfl, hq⟩ dX5_mix_7
abbrev rm_X5_mixPositions : Room := { frames := 10, cells := 0, slots := 0, locals := 162 }
theorem hd_X5_mixPositions : yX5_mixPositions.cls = RX5 ∧ yX5_mixPositions.cls ≠ "java/lang/invoke/MethodHandle" ∧ yX5_mixPositions.cls ≠ "java/lang/invoke/VarHandle" ∧ (parseMethodDescriptor yX5_mixPositions.desc).map (fun d => d.parameters.length) = some 1 := by decide +kernel
set_option maxRecDepth 100000 in
set_option maxHeartbeats 4000000 in
theorem s_X5_mixPositions_15 {x1 : Int64} {I : wI} {Q : Int64 → Prop} {K5 : Int64 → Int32 → Prop} (C0 : wCx p m c s args meth cX5_mixPositions 7 RX5 (some .long) D cs ad b) (hK5 : ∀ (v3 : Int64) (v5 : Int32) (H : Heap) (locs : List Loc) (ls : Array Slot), K5 v3 v5 → wH D cs b G I s H locs → lv_has ls 7 [(0, .ref (b + 0)), (3, .long v3), (5, .int v5)] → W p l e rm_X5_mixPositions s m args below meth c H locs 0 0 (MQ below (va_Ql (fun r I' => I' = I ∧ Q r) (wPo D cs b G) (fun q => b ≤ q)) args s 0 0 (fun q => b ≤ q)) (F0 m 5 ls [])) : ∀ (f : Nat) (v3 : Int64) (v5 : Int32) (v6 : Int32) (H : Heap) (locs : List Loc) (ls : Array Slot), v_X5_mixPositions_15 x1 I Q K5 f v3 v5 v6 → wH D cs b G I s H locs → lv_has ls 7 [(0, .ref (b + 0)), (3, .long v3), (5, .int v5), (6, .int v6)] → W p l e rm_X5_mixPositions s m args below meth c H locs 0 0 (MQ below (va_Ql (fun r I' => I' = I ∧ Q r) (wPo D cs b G) (fun q => b ≤ q)) args s 0 0 (fun q => b ≤ q)) (F0 m 15 ls []) := by
  obtain ⟨hX, hr, hlk, hK, hE⟩ := id C0
  have hx := hX.1
  have hb := hX.2.1
  have hown := hX.2.2.2.1
  have hts := hX.2.2.2.2
  intro f
  induction f with
  | zero =>
    intro v3 v5 v6 H locs ls hq
    exact hq.elim
  | succ f hK15 =>
    intro v3 v5 v6 H locs ls hq hH hl
    have hq : g_X5_mixPositions_15 x1 I Q K5 (v_X5_mixPositions_15 x1 I Q K5 f) v3 v5 v6 := hq
    unfold g_X5_mixPositions_15 at hq
    refine lv_iload hx hb dX5_mixPositions_15 (lv_at hl 3 rfl) ?_
    refine lv_iconst (v := 4) hx hb dX5_mixPositions_17 (by decide) ?_
    refine lv_icmp_gt (tgt := 41) hx hb dX5_mixPositions_18 (by decide) (fun hc => ?_) (fun hc => ?_)
    · have hq := hq.1 hc
      refine lv_iinc (v := (v5 + (1 : Int32))) (lv' := [(5, .int (v5 + (1 : Int32))), (0, .ref (b + 0)), (3, .long v3), (6, .int v6)]) hx hb dX5_mixPositions_41 hl (k := 2) rfl rfl (by decide) rfl (fun ls hl => ?_)
      refine lv_goto (tgt := 5) hx hb dX5_mixPositions_44 (by decide) ?_
      exact hK5 v3 (v5 + (1 : Int32)) _ _ _ hq hH (lv_sub hl [1, 2, 0] rfl)
    · have hq := hq.2 hc
      refine lv_lload_n hx hb dX5_mixPositions_21 rfl (lv_at hl 1 rfl) ?_
      refine lv_aload_n hx hb dX5_mixPositions_22 rfl (lv_at hl 0 rfl) ?_
      refine lv_iload hx hb dX5_mixPositions_23 (lv_at hl 2 rfl) ?_
      refine lv_iload hx hb dX5_mixPositions_25 (lv_at hl 3 rfl) ?_
      obtain ⟨hp, hq⟩ := hq
      refine w_cIp hH (w_rV (As := [.int v5, .int v6]) (rest := [.long v3]) hX hK hE hH (c_X5_at  _ _ _ hp) ck5 sh0 q2_230 q2_231 q2_232 q1_1 q2_233 hd_X5_at ⟨Nat.le_of_ble_eq_true rfl, Nat.le_of_ble_eq_true rfl⟩ ⟨rfl, rfl⟩ rfl hl.1 rfl (Nat.le_of_ble_eq_true rfl) dX5_mixPositions_27 ⟨Nat.zero_le _, Nat.zero_le _⟩) (fun r1  H locs hpo hH => ?_)
      have hq := hq r1  hpo
      refine lv_i2l hx hb dX5_mixPositions_30 rfl ?_
      obtain ⟨hp, hq⟩ := hq
      refine w_cLp hH (w_rS (As := [.long v3, .long (r1).toInt64]) (rest := []) hX hK hE hH (c_X5_mix  _ _ _ hp) q2_222 q2_223 q1_1 q2_224 hd_X5_mix.2 ⟨Nat.le_of_ble_eq_true rfl, Nat.le_of_ble_eq_true rfl⟩ ⟨rfl, rfl⟩ rfl hl.1 rfl (Nat.le_of_ble_eq_true rfl) dX5_mixPositions_31 ⟨Nat.zero_le _, Nat.zero_le _⟩) (fun r2  H locs hpo hH => ?_)
      have hq := hq r2  hpo
      refine lv_lstore_n (lv' := [(3, .long r2), (0, .ref (b + 0)), (5, .int v5), (6, .int v6)]) hx hb dX5_mixPositions_34 rfl hl (by decide) rfl (fun ls hl => ?_)
      refine lv_iinc (v := (v6 + (1 : Int32))) (lv' := [(6, .int (v6 + (1 : Int32))), (3, .long r2), (0, .ref (b + 0)), (5, .int v5)]) hx hb dX5_mixPositions_35 hl (k := 3) rfl rfl (by decide) rfl (fun ls hl => ?_)
      refine lv_goto (tgt := 15) hx hb dX5_mixPositions_38 (by decide) ?_
      exact hK15 r2 v5 (v6 + (1 : Int32)) _ _ _ hq hH (lv_sub hl [2, 1, 3, 0] rfl)
set_option maxRecDepth 100000 in
set_option maxHeartbeats 4000000 in
theorem s_X5_mixPositions_5 {x1 : Int64} {I : wI} {Q : Int64 → Prop} (C0 : wCx p m c s args meth cX5_mixPositions 7 RX5 (some .long) D cs ad b) : ∀ (f : Nat) (v3 : Int64) (v5 : Int32) (H : Heap) (locs : List Loc) (ls : Array Slot), v_X5_mixPositions_5 x1 I Q f v3 v5 → wH D cs b G I s H locs → lv_has ls 7 [(0, .ref (b + 0)), (3, .long v3), (5, .int v5)] → W p l e rm_X5_mixPositions s m args below meth c H locs 0 0 (MQ below (va_Ql (fun r I' => I' = I ∧ Q r) (wPo D cs b G) (fun q => b ≤ q)) args s 0 0 (fun q => b ≤ q)) (F0 m 5 ls []) := by
  obtain ⟨hX, hr, hlk, hK, hE⟩ := id C0
  have hx := hX.1
  have hb := hX.2.1
  have hown := hX.2.2.2.1
  have hts := hX.2.2.2.2
  intro f
  induction f with
  | zero =>
    intro v3 v5 H locs ls hq
    exact hq.elim
  | succ f hK5 =>
    intro v3 v5 H locs ls hq hH hl
    have hq : g_X5_mixPositions_5 x1 I Q (v_X5_mixPositions_5 x1 I Q f) v3 v5 := hq
    unfold g_X5_mixPositions_5 at hq
    refine lv_iload hx hb dX5_mixPositions_5 (lv_at hl 2 rfl) ?_
    refine lv_bipush (v := 6) hx hb dX5_mixPositions_7 (by decide) ?_
    refine lv_icmp_ge (tgt := 47) hx hb dX5_mixPositions_9 (by decide) (fun hc => ?_) (fun hc => ?_)
    · have hq := hq.1 hc
      refine lv_lload_n hx hb dX5_mixPositions_47 rfl (lv_at hl 1 rfl) ?_
      exact w_eL hX hr hlk hH ⟨rfl, hq⟩ dX5_mixPositions_48
    · have hq := hq.2 hc
      refine lv_iconst (v := 0) hx hb dX5_mixPositions_12 (by decide) ?_
      refine lv_istore (lv' := [(6, .int (0 : Int32)), (0, .ref (b + 0)), (3, .long v3), (5, .int v5)]) hx hb dX5_mixPositions_13 hl (by decide) rfl (fun ls hl => ?_)
      obtain ⟨f, hq⟩ := hq
      exact s_X5_mixPositions_15  C0 hK5 f v3 v5 (0 : Int32) _ _ _ hq hH (lv_sub hl [1, 2, 3, 0] rfl)
set_option maxRecDepth 100000 in
set_option maxHeartbeats 4000000 in
theorem c_X5_mixPositions {l : Launch} {D : va_G} {cs : wC4} {ad : Nat → Nat} {b : Nat} {G : wG} (x1 : Int64) (I : wI) (hp : pre_X5_mixPositions x1 I) : Met l yX5_mixPositions (ws_ yX5_mixPositions cX5_mixPositions 7 (some .long)) rm_X5_mixPositions (va_Pc [.ref (b + 0), .long x1] (wPr D cs ad b G I)) (va_Ql (fun r I' => I' = I ∧ post_X5_mixPositions x1 I r) (wPo D cs b G) (fun q => b ≤ q)) 0 0 (fun q => b ≤ q) := by
  have hq := vc_X5_mixPositions x1 I hp
  refine w_met (by decide) (Nat.le_of_ble_eq_true rfl) ?_
  intro p e s m below meth c hX hr hlk hK hE hH ls hl
  have C0 : wCx p m c s _ meth cX5_mixPositions 7 RX5 (some .long) D cs ad b := ⟨hX, hr, hlk, hK, hE⟩
  have hX : CallFix p m c cX5_mixPositions 7 s _ lw_all RX5 := hX
  have hx := hX.1
  have hb := hX.2.1
  have hown := hX.2.2.2.1
  have hts := hX.2.2.2.2
  have hl : lv_has ls 7 [(0, .ref (b + 0)), (1, .long x1)] := hl
  unfold v_X5_mixPositions at hq
  refine lv_lload_n hx hb dX5_mixPositions_0 rfl (lv_at hl 1 rfl) ?_
  refine lv_lstore_n (lv' := [(3, .long x1), (0, .ref (b + 0)), (1, .long x1)]) hx hb dX5_mixPositions_1 rfl hl (by decide) rfl (fun ls hl => ?_)
  refine lv_iconst (v := 0) hx hb dX5_mixPositions_2 (by decide) ?_
  refine lv_istore (lv' := [(5, .int (0 : Int32)), (3, .long x1), (0, .ref (b + 0)), (1, .long x1)]) hx hb dX5_mixPositions_3 hl (by decide) rfl (fun ls hl => ?_)
  obtain ⟨f, hq⟩ := hq
  exact s_X5_mixPositions_5  C0  f x1 (0 : Int32) _ _ _ hq hH (lv_sub hl [2, 1, 0] rfl)
abbrev rm_X5_mixPositionsx : Room := { frames := 10, cells := 1, slots := 6, locals := 162 }

set_option maxRecDepth 100000 in
set_option maxHeartbeats 4000000 in
theorem s_X5_mixPositionsx_15 {x1 : Int64} {I : wI} {X : String → Prop} {K5 : Int64 → Int32 → Prop} (hst : l.stackTraces = false) (hEx : ∀ x ∈ c.exceptionTable.toList, False) (C0 : wCx p m c s args meth cX5_mixPositions 7 RX5 (some .long) D cs ad b) (hK5 : ∀ (v3 : Int64) (v5 : Int32) (H : Heap) (locs : List Loc) (ls : Array Slot), K5 v3 v5 → wH D cs b G I s H locs → lv_has ls 7 [(0, .ref (b + 0)), (3, .long v3), (5, .int v5)] → W p l e rm_X5_mixPositionsx s m args below meth c H locs 0 0 (vx_MQ below (va_Ql (fun (_ : Int64) (_ : wI) => False) (wPo D cs b G) (fun q => b ≤ q)) (wXC D cs b G (fun E I' => I' = I ∧ X E)) args s 1 6 (fun q => b ≤ q)) (F0 m 5 ls [])) : ∀ (f : Nat) (v3 : Int64) (v5 : Int32) (v6 : Int32) (H : Heap) (locs : List Loc) (ls : Array Slot), v_X5_mixPositionsx_15 x1 I X K5 f v3 v5 v6 → wH D cs b G I s H locs → lv_has ls 7 [(0, .ref (b + 0)), (3, .long v3), (5, .int v5), (6, .int v6)] → W p l e rm_X5_mixPositionsx s m args below meth c H locs 0 0 (vx_MQ below (va_Ql (fun (_ : Int64) (_ : wI) => False) (wPo D cs b G) (fun q => b ≤ q)) (wXC D cs b G (fun E I' => I' = I ∧ X E)) args s 1 6 (fun q => b ≤ q)) (F0 m 15 ls []) := by
  obtain ⟨hX, hr, hlk, hK, hE⟩ := id C0
  have hx := hX.1
  have hb := hX.2.1
  have hown := hX.2.2.2.1
  have hts := hX.2.2.2.2
  intro f
  induction f with
  | zero =>
    intro v3 v5 v6 H locs ls hq
    exact hq.elim
  | succ f hK15 =>
    intro v3 v5 v6 H locs ls hq hH hl
    have hq : g_X5_mixPositionsx_15 x1 I X K5 (v_X5_mixPositionsx_15 x1 I X K5 f) v3 v5 v6 := hq
    unfold g_X5_mixPositionsx_15 at hq
    refine lv_iload hx hb dX5_mixPositions_15 (lv_at hl 3 rfl) ?_
    refine lv_iconst (v := 4) hx hb dX5_mixPositions_17 (by decide) ?_
    refine lv_icmp_gt (tgt := 41) hx hb dX5_mixPositions_18 (by decide) (fun hc => ?_) (fun hc => ?_)
    · have hq := hq.1 hc
      refine lv_iinc (v := (v5 + (1 : Int32))) (lv' := [(5, .int (v5 + (1 : Int32))), (0, .ref (b + 0)), (3, .long v3), (6, .int v6)]) hx hb dX5_mixPositions_41 hl (k := 2) rfl rfl (by decide) rfl (fun ls hl => ?_)
      refine lv_goto (tgt := 5) hx hb dX5_mixPositions_44 (by decide) ?_
      exact hK5 v3 (v5 + (1 : Int32)) _ _ _ hq hH (lv_sub hl [1, 2, 0] rfl)
    · have hq := hq.2 hc
      refine lv_lload_n hx hb dX5_mixPositions_21 rfl (lv_at hl 1 rfl) ?_
      refine lv_aload_n hx hb dX5_mixPositions_22 rfl (lv_at hl 0 rfl) ?_
      refine lv_iload hx hb dX5_mixPositions_23 (lv_at hl 2 rfl) ?_
      refine lv_iload hx hb dX5_mixPositions_25 (lv_at hl 3 rfl) ?_
      by_cases hok : ok_X5_at v5 v6 I
      · have hq := hq.1 hok
        obtain ⟨hp, hq⟩ := hq
        refine w_cIp hH (w_rV (As := [.int v5, .int v6]) (rest := [.long v3]) hX hK hE hH (c_X5_at  _ _ _ hp) ck5 sh0 q2_230 q2_231 q2_232 q1_1 q2_233 hd_X5_at ⟨Nat.le_of_ble_eq_true rfl, Nat.le_of_ble_eq_true rfl⟩ ⟨rfl, rfl⟩ rfl hl.1 rfl (Nat.le_of_ble_eq_true rfl) dX5_mixPositions_27 ⟨Nat.zero_le _, Nat.zero_le _⟩) (fun r2  H locs hpo hH => ?_)
        have hq := hq r2  hpo
        refine lv_i2l hx hb dX5_mixPositions_30 rfl ?_
        obtain ⟨hp, hq⟩ := hq
        refine w_cLp hH (w_rS (As := [.long v3, .long (r2).toInt64]) (rest := []) hX hK hE hH (c_X5_mix  _ _ _ hp) q2_222 q2_223 q1_1 q2_224 hd_X5_mix.2 ⟨Nat.le_of_ble_eq_true rfl, Nat.le_of_ble_eq_true rfl⟩ ⟨rfl, rfl⟩ rfl hl.1 rfl (Nat.le_of_ble_eq_true rfl) dX5_mixPositions_31 ⟨Nat.zero_le _, Nat.zero_le _⟩) (fun r3  H locs hpo hH => ?_)
        have hq := hq r3  hpo
        refine lv_lstore_n (lv' := [(3, .long r3), (0, .ref (b + 0)), (5, .int v5), (6, .int v6)]) hx hb dX5_mixPositions_34 rfl hl (by decide) rfl (fun ls hl => ?_)
        refine lv_iinc (v := (v6 + (1 : Int32))) (lv' := [(6, .int (v6 + (1 : Int32))), (3, .long r3), (0, .ref (b + 0)), (5, .int v5)]) hx hb dX5_mixPositions_35 hl (k := 3) rfl rfl (by decide) rfl (fun ls hl => ?_)
        refine lv_goto (tgt := 15) hx hb dX5_mixPositions_38 (by decide) ?_
        exact hK15 r3 v5 (v6 + (1 : Int32)) _ _ _ hq hH (lv_sub hl [2, 1, 3, 0] rfl)
      · have hq := hq.2 hok
        obtain ⟨hp, hq⟩ := hq
        exact w_xI hEx hlk hH (w_xrV (As := [.int v5, .int v6]) (rest := [.long v3]) hX hK hE hH (c_X5_atx hst  _ _ _ hp) ck5 sh0 q2_230 q2_231 q2_232 q1_1 q2_233 hd_X5_at ⟨Nat.le_of_ble_eq_true rfl, Nat.le_of_ble_eq_true rfl⟩ ⟨rfl, rfl⟩ rfl hl.1 rfl (Nat.le_of_ble_eq_true rfl) dX5_mixPositions_27 ⟨Nat.le_of_ble_eq_true rfl, Nat.le_of_ble_eq_true rfl⟩) (fun E u h => by obtain ⟨h1, h2⟩ := h; subst h1; exact ⟨rfl, hq E h2⟩)
set_option maxRecDepth 100000 in
set_option maxHeartbeats 4000000 in
theorem s_X5_mixPositionsx_5 {x1 : Int64} {I : wI} {X : String → Prop} (hst : l.stackTraces = false) (hEx : ∀ x ∈ c.exceptionTable.toList, False) (C0 : wCx p m c s args meth cX5_mixPositions 7 RX5 (some .long) D cs ad b) : ∀ (f : Nat) (v3 : Int64) (v5 : Int32) (H : Heap) (locs : List Loc) (ls : Array Slot), v_X5_mixPositionsx_5 x1 I X f v3 v5 → wH D cs b G I s H locs → lv_has ls 7 [(0, .ref (b + 0)), (3, .long v3), (5, .int v5)] → W p l e rm_X5_mixPositionsx s m args below meth c H locs 0 0 (vx_MQ below (va_Ql (fun (_ : Int64) (_ : wI) => False) (wPo D cs b G) (fun q => b ≤ q)) (wXC D cs b G (fun E I' => I' = I ∧ X E)) args s 1 6 (fun q => b ≤ q)) (F0 m 5 ls []) := by
  obtain ⟨hX, hr, hlk, hK, hE⟩ := id C0
  have hx := hX.1
  have hb := hX.2.1
  have hown := hX.2.2.2.1
  have hts := hX.2.2.2.2
  intro f
  induction f with
  | zero =>
    intro v3 v5 H locs ls hq
    exact hq.elim
  | succ f hK5 =>
    intro v3 v5 H locs ls hq hH hl
    have hq : g_X5_mixPositionsx_5 x1 I X (v_X5_mixPositionsx_5 x1 I X f) v3 v5 := hq
    unfold g_X5_mixPositionsx_5 at hq
    refine lv_iload hx hb dX5_mixPositions_5 (lv_at hl 2 rfl) ?_
    refine lv_bipush (v := 6) hx hb dX5_mixPositions_7 (by decide) ?_
    refine lv_icmp_ge (tgt := 47) hx hb dX5_mixPositions_9 (by decide) (fun hc => ?_) (fun hc => ?_)
    · have hq := hq.1 hc
      refine lv_lload_n hx hb dX5_mixPositions_47 rfl (lv_at hl 1 rfl) ?_
      exact hq.elim
    · have hq := hq.2 hc
      refine lv_iconst (v := 0) hx hb dX5_mixPositions_12 (by decide) ?_
      refine lv_istore (lv' := [(6, .int (0 : Int32)), (0, .ref (b + 0)), (3, .long v3), (5, .int v5)]) hx hb dX5_mixPositions_13 hl (by decide) rfl (fun ls hl => ?_)
      obtain ⟨f, hq⟩ := hq
      exact s_X5_mixPositionsx_15 hst hEx C0 hK5 f v3 v5 (0 : Int32) _ _ _ hq hH (lv_sub hl [1, 2, 3, 0] rfl)
set_option maxRecDepth 100000 in
set_option maxHeartbeats 4000000 in
theorem c_X5_mixPositionsx {l : Launch} {D : va_G} {cs : wC4} {ad : Nat → Nat} {b : Nat} {G : wG} (hst : l.stackTraces = false) (x1 : Int64) (I : wI) (hp : pre_X5_mixPositionsx x1 I) : vx_Met l yX5_mixPositions (ws_ yX5_mixPositions cX5_mixPositions 7 (some .long)) rm_X5_mixPositionsx (va_Pc [.ref (b + 0), .long x1] (wPr D cs ad b G I)) (va_Ql (fun (_ : Int64) (_ : wI) => False) (wPo D cs b G) (fun q => b ≤ q)) (wXC D cs b G (fun E I' => I' = I ∧ exc_X5_mixPositions x1 I E)) 1 6 (fun q => b ≤ q) := by
  have hq := vc_X5_mixPositionsx x1 I hp
  refine w_metx (by decide) (Nat.le_of_ble_eq_true rfl) ?_
  intro p e s m below meth c hX hr hlk hEx hK hE hH ls hl
  have C0 : wCx p m c s _ meth cX5_mixPositions 7 RX5 (some .long) D cs ad b := ⟨hX, hr, hlk, hK, hE⟩
  have hX : CallFix p m c cX5_mixPositions 7 s _ lw_all RX5 := hX
  have hx := hX.1
  have hb := hX.2.1
  have hown := hX.2.2.2.1
  have hts := hX.2.2.2.2
  have hl : lv_has ls 7 [(0, .ref (b + 0)), (1, .long x1)] := hl
  unfold v_X5_mixPositionsx at hq
  refine lv_lload_n hx hb dX5_mixPositions_0 rfl (lv_at hl 1 rfl) ?_
  refine lv_lstore_n (lv' := [(3, .long x1), (0, .ref (b + 0)), (1, .long x1)]) hx hb dX5_mixPositions_1 rfl hl (by decide) rfl (fun ls hl => ?_)
  refine lv_iconst (v := 0) hx hb dX5_mixPositions_2 (by decide) ?_
  refine lv_istore (lv' := [(5, .int (0 : Int32)), (3, .long x1), (0, .ref (b + 0)), (1, .long x1)]) hx hb dX5_mixPositions_3 hl (by decide) rfl (fun ls hl => ?_)
  obtain ⟨f, hq⟩ := hq
  exact s_X5_mixPositionsx_5 hst hEx C0  f x1 (0 : Int32) _ _ _ hq hH (lv_sub hl [2, 1, 0] rfl)
abbrev rm_X5_mixKeys : Room := { frames := 10, cells := 0, slots := 0, locals := 162 }
theorem hd_X5_mixKeys : yX5_mixKeys.cls = RX5 ∧ yX5_mixKeys.cls ≠ "java/lang/invoke/MethodHandle" ∧ yX5_mixKeys.cls ≠ "java/lang/invoke/VarHandle" ∧ (parseMethodDescriptor yX5_mixKeys.desc).map (fun d => d.parameters.length) = some 1 := by decide +kernel
set_option maxRecDepth 100000 in
set_option maxHeartbeats 4000000 in
theorem s_X5_mixKeys_14 {x1 : Int64} {Q : Int64 → wI → Prop} {K5 : Int64 → Int32 → wI → Prop} (C0 : wCx p m c s args meth cX5_mixKeys 7 RX5 (some .long) D cs ad b) (hK5 : ∀ (v3 : Int64) (v5 : Int32) (I : wI) (H : Heap) (locs : List Loc) (ls : Array Slot), K5 v3 v5 I → wH D cs b G I s H locs → lv_has ls 7 [(0, .ref (b + 0)), (3, .long v3), (5, .int v5)] → W p l e rm_X5_mixKeys s m args below meth c H locs 0 0 (MQ below (va_Ql (Q) (wPo D cs b G) (fun q => b ≤ q)) args s 0 0 (fun q => b ≤ q)) (F0 m 5 ls [])) : ∀ (f : Nat) (v3 : Int64) (v5 : Int32) (v6 : Int32) (I : wI) (H : Heap) (locs : List Loc) (ls : Array Slot), v_X5_mixKeys_14 x1 Q K5 f v3 v5 v6 I → wH D cs b G I s H locs → lv_has ls 7 [(0, .ref (b + 0)), (3, .long v3), (5, .int v5), (6, .int v6)] → W p l e rm_X5_mixKeys s m args below meth c H locs 0 0 (MQ below (va_Ql (Q) (wPo D cs b G) (fun q => b ≤ q)) args s 0 0 (fun q => b ≤ q)) (F0 m 14 ls []) := by
  obtain ⟨hX, hr, hlk, hK, hE⟩ := id C0
  have hx := hX.1
  have hb := hX.2.1
  have hown := hX.2.2.2.1
  have hts := hX.2.2.2.2
  intro f
  induction f with
  | zero =>
    intro v3 v5 v6 I H locs ls hq
    exact hq.elim
  | succ f hK14 =>
    intro v3 v5 v6 I H locs ls hq hH hl
    have hq : g_X5_mixKeys_14 x1 Q K5 (v_X5_mixKeys_14 x1 Q K5 f) v3 v5 v6 I := hq
    unfold g_X5_mixKeys_14 at hq
    refine lv_iload hx hb dX5_mixKeys_14 (lv_at hl 3 rfl) ?_
    refine lv_iconst (v := 5) hx hb dX5_mixKeys_16 (by decide) ?_
    refine lv_icmp_gt (tgt := 40) hx hb dX5_mixKeys_17 (by decide) (fun hc => ?_) (fun hc => ?_)
    · have hq := hq.1 hc
      refine lv_lload_n hx hb dX5_mixKeys_40 rfl (lv_at hl 1 rfl) ?_
      refine lv_aload_n hx hb dX5_mixKeys_41 rfl (lv_at hl 0 rfl) ?_
      refine lv_iload hx hb dX5_mixKeys_42 (lv_at hl 2 rfl) ?_
      refine lv_iconst (v := 0) hx hb dX5_mixKeys_44 (by decide) ?_
      obtain ⟨hp, hq⟩ := hq
      refine w_cI hH (w_rV (As := [.int v5, .int (0 : Int32)]) (rest := [.long v3]) hX hK hE hH (c_X5_ifTurned  _ _ _ hp) ck5 sh0 q3_76 q3_77 q3_78 q1_1 q3_79 hd_X5_ifTurned ⟨Nat.le_of_ble_eq_true rfl, Nat.le_of_ble_eq_true rfl⟩ ⟨rfl, rfl⟩ rfl hl.1 rfl (Nat.le_of_ble_eq_true rfl) dX5_mixKeys_45 ⟨Nat.zero_le _, Nat.zero_le _⟩) (fun r1 I2 H locs hpo hH => ?_)
      have hq := hq r1 I2 hpo
      refine lv_i2l hx hb dX5_mixKeys_48 rfl ?_
      obtain ⟨hp, hq⟩ := hq
      refine w_cLp hH (w_rS (As := [.long v3, .long (r1).toInt64]) (rest := []) hX hK hE hH (c_X5_mix  _ _ _ hp) q2_222 q2_223 q1_1 q2_224 hd_X5_mix.2 ⟨Nat.le_of_ble_eq_true rfl, Nat.le_of_ble_eq_true rfl⟩ ⟨rfl, rfl⟩ rfl hl.1 rfl (Nat.le_of_ble_eq_true rfl) dX5_mixKeys_49 ⟨Nat.zero_le _, Nat.zero_le _⟩) (fun r3  H locs hpo hH => ?_)
      have hq := hq r3  hpo
      refine lv_lstore_n (lv' := [(3, .long r3), (0, .ref (b + 0)), (5, .int v5), (6, .int v6)]) hx hb dX5_mixKeys_52 rfl hl (by decide) rfl (fun ls hl => ?_)
      refine lv_lload_n hx hb dX5_mixKeys_53 rfl (lv_at hl 0 rfl) ?_
      refine lv_aload_n hx hb dX5_mixKeys_54 rfl (lv_at hl 1 rfl) ?_
      refine lv_iload hx hb dX5_mixKeys_55 (lv_at hl 2 rfl) ?_
      refine lv_iconst (v := 1) hx hb dX5_mixKeys_57 (by decide) ?_
      obtain ⟨hp, hq⟩ := hq
      refine w_cI hH (w_rV (As := [.int v5, .int (1 : Int32)]) (rest := [.long r3]) hX hK hE hH (c_X5_ifTurned  _ _ _ hp) ck5 sh0 q3_76 q3_77 q3_78 q1_1 q3_79 hd_X5_ifTurned ⟨Nat.le_of_ble_eq_true rfl, Nat.le_of_ble_eq_true rfl⟩ ⟨rfl, rfl⟩ rfl hl.1 rfl (Nat.le_of_ble_eq_true rfl) dX5_mixKeys_58 ⟨Nat.zero_le _, Nat.zero_le _⟩) (fun r4 I5 H locs hpo hH => ?_)
      have hq := hq r4 I5 hpo
      refine lv_i2l hx hb dX5_mixKeys_61 rfl ?_
      obtain ⟨hp, hq⟩ := hq
      refine w_cLp hH (w_rS (As := [.long r3, .long (r4).toInt64]) (rest := []) hX hK hE hH (c_X5_mix  _ _ _ hp) q2_222 q2_223 q1_1 q2_224 hd_X5_mix.2 ⟨Nat.le_of_ble_eq_true rfl, Nat.le_of_ble_eq_true rfl⟩ ⟨rfl, rfl⟩ rfl hl.1 rfl (Nat.le_of_ble_eq_true rfl) dX5_mixKeys_62 ⟨Nat.zero_le _, Nat.zero_le _⟩) (fun r6  H locs hpo hH => ?_)
      have hq := hq r6  hpo
      refine lv_lstore_n (lv' := [(3, .long r6), (0, .ref (b + 0)), (5, .int v5), (6, .int v6)]) hx hb dX5_mixKeys_65 rfl hl (by decide) rfl (fun ls hl => ?_)
      refine lv_iinc (v := (v5 + (1 : Int32))) (lv' := [(5, .int (v5 + (1 : Int32))), (3, .long r6), (0, .ref (b + 0)), (6, .int v6)]) hx hb dX5_mixKeys_66 hl (k := 2) rfl rfl (by decide) rfl (fun ls hl => ?_)
      refine lv_goto (tgt := 5) hx hb dX5_mixKeys_69 (by decide) ?_
      exact hK5 r6 (v5 + (1 : Int32)) _ _ _ _ hq hH (lv_sub hl [2, 1, 0] rfl)
    · have hq := hq.2 hc
      refine lv_lload_n hx hb dX5_mixKeys_20 rfl (lv_at hl 1 rfl) ?_
      refine lv_aload_n hx hb dX5_mixKeys_21 rfl (lv_at hl 0 rfl) ?_
      refine lv_iload hx hb dX5_mixKeys_22 (lv_at hl 2 rfl) ?_
      refine lv_iload hx hb dX5_mixKeys_24 (lv_at hl 3 rfl) ?_
      obtain ⟨hp, hq⟩ := hq
      refine w_cI hH (w_rV (As := [.int v5, .int v6]) (rest := [.long v3]) hX hK hE hH (c_X5_key  _ _ _ hp) ck5 sh0 q3_36 q3_37 q3_38 q1_1 q3_39 hd_X5_key ⟨Nat.le_of_ble_eq_true rfl, Nat.le_of_ble_eq_true rfl⟩ ⟨rfl, rfl⟩ rfl hl.1 rfl (Nat.le_of_ble_eq_true rfl) dX5_mixKeys_26 ⟨Nat.zero_le _, Nat.zero_le _⟩) (fun r7 I8 H locs hpo hH => ?_)
      have hq := hq r7 I8 hpo
      refine lv_i2l hx hb dX5_mixKeys_29 rfl ?_
      obtain ⟨hp, hq⟩ := hq
      refine w_cLp hH (w_rS (As := [.long v3, .long (r7).toInt64]) (rest := []) hX hK hE hH (c_X5_mix  _ _ _ hp) q2_222 q2_223 q1_1 q2_224 hd_X5_mix.2 ⟨Nat.le_of_ble_eq_true rfl, Nat.le_of_ble_eq_true rfl⟩ ⟨rfl, rfl⟩ rfl hl.1 rfl (Nat.le_of_ble_eq_true rfl) dX5_mixKeys_30 ⟨Nat.zero_le _, Nat.zero_le _⟩) (fun r9  H locs hpo hH => ?_)
      have hq := hq r9  hpo
      refine lv_lstore_n (lv' := [(3, .long r9), (0, .ref (b + 0)), (5, .int v5), (6, .int v6)]) hx hb dX5_mixKeys_33 rfl hl (by decide) rfl (fun ls hl => ?_)
      refine lv_iinc (v := (v6 + (1 : Int32))) (lv' := [(6, .int (v6 + (1 : Int32))), (3, .long r9), (0, .ref (b + 0)), (5, .int v5)]) hx hb dX5_mixKeys_34 hl (k := 3) rfl rfl (by decide) rfl (fun ls hl => ?_)
      refine lv_goto (tgt := 14) hx hb dX5_mixKeys_37 (by decide) ?_
      exact hK14 r9 v5 (v6 + (1 : Int32)) _ _ _ _ hq hH (lv_sub hl [2, 1, 3, 0] rfl)
set_option maxRecDepth 100000 in
set_option maxHeartbeats 4000000 in
theorem s_X5_mixKeys_5 {x1 : Int64} {Q : Int64 → wI → Prop} (C0 : wCx p m c s args meth cX5_mixKeys 7 RX5 (some .long) D cs ad b) : ∀ (f : Nat) (v3 : Int64) (v5 : Int32) (I : wI) (H : Heap) (locs : List Loc) (ls : Array Slot), v_X5_mixKeys_5 x1 Q f v3 v5 I → wH D cs b G I s H locs → lv_has ls 7 [(0, .ref (b + 0)), (3, .long v3), (5, .int v5)] → W p l e rm_X5_mixKeys s m args below meth c H locs 0 0 (MQ below (va_Ql (Q) (wPo D cs b G) (fun q => b ≤ q)) args s 0 0 (fun q => b ≤ q)) (F0 m 5 ls []) := by
  obtain ⟨hX, hr, hlk, hK, hE⟩ := id C0
  have hx := hX.1
  have hb := hX.2.1
  have hown := hX.2.2.2.1
  have hts := hX.2.2.2.2
  intro f
  induction f with
  | zero =>
    intro v3 v5 I H locs ls hq
    exact hq.elim
  | succ f hK5 =>
    intro v3 v5 I H locs ls hq hH hl
    have hq : g_X5_mixKeys_5 x1 Q (v_X5_mixKeys_5 x1 Q f) v3 v5 I := hq
    unfold g_X5_mixKeys_5 at hq
    refine lv_iload hx hb dX5_mixKeys_5 (lv_at hl 2 rfl) ?_
    refine lv_iconst (v := 5) hx hb dX5_mixKeys_7 (by decide) ?_
    refine lv_icmp_ge (tgt := 72) hx hb dX5_mixKeys_8 (by decide) (fun hc => ?_) (fun hc => ?_)
    · have hq := hq.1 hc
      refine lv_lload_n hx hb dX5_mixKeys_72 rfl (lv_at hl 1 rfl) ?_
      exact w_eL hX hr hlk hH hq dX5_mixKeys_73
    · have hq := hq.2 hc
      refine lv_iconst (v := 0) hx hb dX5_mixKeys_11 (by decide) ?_
      refine lv_istore (lv' := [(6, .int (0 : Int32)), (0, .ref (b + 0)), (3, .long v3), (5, .int v5)]) hx hb dX5_mixKeys_12 hl (by decide) rfl (fun ls hl => ?_)
      obtain ⟨f, hq⟩ := hq
      exact s_X5_mixKeys_14  C0 hK5 f v3 v5 (0 : Int32) _ _ _ _ hq hH (lv_sub hl [1, 2, 3, 0] rfl)
set_option maxRecDepth 100000 in
set_option maxHeartbeats 4000000 in
theorem c_X5_mixKeys {l : Launch} {D : va_G} {cs : wC4} {ad : Nat → Nat} {b : Nat} {G : wG} (x1 : Int64) (I : wI) (hp : pre_X5_mixKeys x1 I) : Met l yX5_mixKeys (ws_ yX5_mixKeys cX5_mixKeys 7 (some .long)) rm_X5_mixKeys (va_Pc [.ref (b + 0), .long x1] (wPr D cs ad b G I)) (va_Ql (fun r I' => post_X5_mixKeys x1 I r I') (wPo D cs b G) (fun q => b ≤ q)) 0 0 (fun q => b ≤ q) := by
  have hq := vc_X5_mixKeys x1 I hp
  refine w_met (by decide) (Nat.le_of_ble_eq_true rfl) ?_
  intro p e s m below meth c hX hr hlk hK hE hH ls hl
  have C0 : wCx p m c s _ meth cX5_mixKeys 7 RX5 (some .long) D cs ad b := ⟨hX, hr, hlk, hK, hE⟩
  have hX : CallFix p m c cX5_mixKeys 7 s _ lw_all RX5 := hX
  have hx := hX.1
  have hb := hX.2.1
  have hown := hX.2.2.2.1
  have hts := hX.2.2.2.2
  have hl : lv_has ls 7 [(0, .ref (b + 0)), (1, .long x1)] := hl
  unfold v_X5_mixKeys at hq
  refine lv_lload_n hx hb dX5_mixKeys_0 rfl (lv_at hl 1 rfl) ?_
  refine lv_lstore_n (lv' := [(3, .long x1), (0, .ref (b + 0)), (1, .long x1)]) hx hb dX5_mixKeys_1 rfl hl (by decide) rfl (fun ls hl => ?_)
  refine lv_iconst (v := 0) hx hb dX5_mixKeys_2 (by decide) ?_
  refine lv_istore (lv' := [(5, .int (0 : Int32)), (3, .long x1), (0, .ref (b + 0)), (1, .long x1)]) hx hb dX5_mixKeys_3 hl (by decide) rfl (fun ls hl => ?_)
  obtain ⟨f, hq⟩ := hq
  exact s_X5_mixKeys_5  C0  f x1 (0 : Int32) _ _ _ _ hq hH (lv_sub hl [2, 1, 0] rfl)
abbrev rm_X5_mixKeysx : Room := { frames := 10, cells := 1, slots := 6, locals := 162 }

set_option maxRecDepth 100000 in
set_option maxHeartbeats 4000000 in
theorem s_X5_mixKeysx_14 {x1 : Int64} {X : String → wI → Prop} {K5 : Int64 → Int32 → wI → Prop} (hst : l.stackTraces = false) (hEx : ∀ x ∈ c.exceptionTable.toList, False) (C0 : wCx p m c s args meth cX5_mixKeys 7 RX5 (some .long) D cs ad b) (hK5 : ∀ (v3 : Int64) (v5 : Int32) (I : wI) (H : Heap) (locs : List Loc) (ls : Array Slot), K5 v3 v5 I → wH D cs b G I s H locs → lv_has ls 7 [(0, .ref (b + 0)), (3, .long v3), (5, .int v5)] → W p l e rm_X5_mixKeysx s m args below meth c H locs 0 0 (vx_MQ below (va_Ql (fun (_ : Int64) (_ : wI) => False) (wPo D cs b G) (fun q => b ≤ q)) (wXC D cs b G X) args s 1 6 (fun q => b ≤ q)) (F0 m 5 ls [])) : ∀ (f : Nat) (v3 : Int64) (v5 : Int32) (v6 : Int32) (I : wI) (H : Heap) (locs : List Loc) (ls : Array Slot), v_X5_mixKeysx_14 x1 X K5 f v3 v5 v6 I → wH D cs b G I s H locs → lv_has ls 7 [(0, .ref (b + 0)), (3, .long v3), (5, .int v5), (6, .int v6)] → W p l e rm_X5_mixKeysx s m args below meth c H locs 0 0 (vx_MQ below (va_Ql (fun (_ : Int64) (_ : wI) => False) (wPo D cs b G) (fun q => b ≤ q)) (wXC D cs b G X) args s 1 6 (fun q => b ≤ q)) (F0 m 14 ls []) := by
  obtain ⟨hX, hr, hlk, hK, hE⟩ := id C0
  have hx := hX.1
  have hb := hX.2.1
  have hown := hX.2.2.2.1
  have hts := hX.2.2.2.2
  intro f
  induction f with
  | zero =>
    intro v3 v5 v6 I H locs ls hq
    exact hq.elim
  | succ f hK14 =>
    intro v3 v5 v6 I H locs ls hq hH hl
    have hq : g_X5_mixKeysx_14 x1 X K5 (v_X5_mixKeysx_14 x1 X K5 f) v3 v5 v6 I := hq
    unfold g_X5_mixKeysx_14 at hq
    refine lv_iload hx hb dX5_mixKeys_14 (lv_at hl 3 rfl) ?_
    refine lv_iconst (v := 5) hx hb dX5_mixKeys_16 (by decide) ?_
    refine lv_icmp_gt (tgt := 40) hx hb dX5_mixKeys_17 (by decide) (fun hc => ?_) (fun hc => ?_)
    · have hq := hq.1 hc
      refine lv_lload_n hx hb dX5_mixKeys_40 rfl (lv_at hl 1 rfl) ?_
      refine lv_aload_n hx hb dX5_mixKeys_41 rfl (lv_at hl 0 rfl) ?_
      refine lv_iload hx hb dX5_mixKeys_42 (lv_at hl 2 rfl) ?_
      refine lv_iconst (v := 0) hx hb dX5_mixKeys_44 (by decide) ?_
      by_cases hok : ok_X5_ifTurned v5 (0 : Int32) I
      · have hq := hq.1 hok
        obtain ⟨hp, hq⟩ := hq
        refine w_cI hH (w_rV (As := [.int v5, .int (0 : Int32)]) (rest := [.long v3]) hX hK hE hH (c_X5_ifTurned  _ _ _ hp) ck5 sh0 q3_76 q3_77 q3_78 q1_1 q3_79 hd_X5_ifTurned ⟨Nat.le_of_ble_eq_true rfl, Nat.le_of_ble_eq_true rfl⟩ ⟨rfl, rfl⟩ rfl hl.1 rfl (Nat.le_of_ble_eq_true rfl) dX5_mixKeys_45 ⟨Nat.zero_le _, Nat.zero_le _⟩) (fun r3 I4 H locs hpo hH => ?_)
        have hq := hq r3 I4 hpo
        refine lv_i2l hx hb dX5_mixKeys_48 rfl ?_
        obtain ⟨hp, hq⟩ := hq
        refine w_cLp hH (w_rS (As := [.long v3, .long (r3).toInt64]) (rest := []) hX hK hE hH (c_X5_mix  _ _ _ hp) q2_222 q2_223 q1_1 q2_224 hd_X5_mix.2 ⟨Nat.le_of_ble_eq_true rfl, Nat.le_of_ble_eq_true rfl⟩ ⟨rfl, rfl⟩ rfl hl.1 rfl (Nat.le_of_ble_eq_true rfl) dX5_mixKeys_49 ⟨Nat.zero_le _, Nat.zero_le _⟩) (fun r5  H locs hpo hH => ?_)
        have hq := hq r5  hpo
        refine lv_lstore_n (lv' := [(3, .long r5), (0, .ref (b + 0)), (5, .int v5), (6, .int v6)]) hx hb dX5_mixKeys_52 rfl hl (by decide) rfl (fun ls hl => ?_)
        refine lv_lload_n hx hb dX5_mixKeys_53 rfl (lv_at hl 0 rfl) ?_
        refine lv_aload_n hx hb dX5_mixKeys_54 rfl (lv_at hl 1 rfl) ?_
        refine lv_iload hx hb dX5_mixKeys_55 (lv_at hl 2 rfl) ?_
        refine lv_iconst (v := 1) hx hb dX5_mixKeys_57 (by decide) ?_
        by_cases hok : ok_X5_ifTurned v5 (1 : Int32) I4
        · have hq := hq.1 hok
          obtain ⟨hp, hq⟩ := hq
          refine w_cI hH (w_rV (As := [.int v5, .int (1 : Int32)]) (rest := [.long r5]) hX hK hE hH (c_X5_ifTurned  _ _ _ hp) ck5 sh0 q3_76 q3_77 q3_78 q1_1 q3_79 hd_X5_ifTurned ⟨Nat.le_of_ble_eq_true rfl, Nat.le_of_ble_eq_true rfl⟩ ⟨rfl, rfl⟩ rfl hl.1 rfl (Nat.le_of_ble_eq_true rfl) dX5_mixKeys_58 ⟨Nat.zero_le _, Nat.zero_le _⟩) (fun r8 I9 H locs hpo hH => ?_)
          have hq := hq r8 I9 hpo
          refine lv_i2l hx hb dX5_mixKeys_61 rfl ?_
          obtain ⟨hp, hq⟩ := hq
          refine w_cLp hH (w_rS (As := [.long r5, .long (r8).toInt64]) (rest := []) hX hK hE hH (c_X5_mix  _ _ _ hp) q2_222 q2_223 q1_1 q2_224 hd_X5_mix.2 ⟨Nat.le_of_ble_eq_true rfl, Nat.le_of_ble_eq_true rfl⟩ ⟨rfl, rfl⟩ rfl hl.1 rfl (Nat.le_of_ble_eq_true rfl) dX5_mixKeys_62 ⟨Nat.zero_le _, Nat.zero_le _⟩) (fun r10  H locs hpo hH => ?_)
          have hq := hq r10  hpo
          refine lv_lstore_n (lv' := [(3, .long r10), (0, .ref (b + 0)), (5, .int v5), (6, .int v6)]) hx hb dX5_mixKeys_65 rfl hl (by decide) rfl (fun ls hl => ?_)
          refine lv_iinc (v := (v5 + (1 : Int32))) (lv' := [(5, .int (v5 + (1 : Int32))), (3, .long r10), (0, .ref (b + 0)), (6, .int v6)]) hx hb dX5_mixKeys_66 hl (k := 2) rfl rfl (by decide) rfl (fun ls hl => ?_)
          refine lv_goto (tgt := 5) hx hb dX5_mixKeys_69 (by decide) ?_
          exact hK5 r10 (v5 + (1 : Int32)) _ _ _ _ hq hH (lv_sub hl [2, 1, 0] rfl)
        · have hq := hq.2 hok
          obtain ⟨hp, hq⟩ := hq
          exact w_xI hEx hlk hH (w_xrV (As := [.int v5, .int (1 : Int32)]) (rest := [.long r5]) hX hK hE hH (c_X5_ifTurnedx hst  _ _ _ hp) ck5 sh0 q3_76 q3_77 q3_78 q1_1 q3_79 hd_X5_ifTurned ⟨Nat.le_of_ble_eq_true rfl, Nat.le_of_ble_eq_true rfl⟩ ⟨rfl, rfl⟩ rfl hl.1 rfl (Nat.le_of_ble_eq_true rfl) dX5_mixKeys_58 ⟨Nat.le_of_ble_eq_true rfl, Nat.le_of_ble_eq_true rfl⟩) (fun E u h => hq E u h)
      · have hq := hq.2 hok
        obtain ⟨hp, hq⟩ := hq
        exact w_xI hEx hlk hH (w_xrV (As := [.int v5, .int (0 : Int32)]) (rest := [.long v3]) hX hK hE hH (c_X5_ifTurnedx hst  _ _ _ hp) ck5 sh0 q3_76 q3_77 q3_78 q1_1 q3_79 hd_X5_ifTurned ⟨Nat.le_of_ble_eq_true rfl, Nat.le_of_ble_eq_true rfl⟩ ⟨rfl, rfl⟩ rfl hl.1 rfl (Nat.le_of_ble_eq_true rfl) dX5_mixKeys_45 ⟨Nat.le_of_ble_eq_true rfl, Nat.le_of_ble_eq_true rfl⟩) (fun E u h => hq E u h)
    · have hq := hq.2 hc
      refine lv_lload_n hx hb dX5_mixKeys_20 rfl (lv_at hl 1 rfl) ?_
      refine lv_aload_n hx hb dX5_mixKeys_21 rfl (lv_at hl 0 rfl) ?_
      refine lv_iload hx hb dX5_mixKeys_22 (lv_at hl 2 rfl) ?_
      refine lv_iload hx hb dX5_mixKeys_24 (lv_at hl 3 rfl) ?_
      by_cases hok : ok_X5_key v5 v6 I
      · have hq := hq.1 hok
        obtain ⟨hp, hq⟩ := hq
        refine w_cI hH (w_rV (As := [.int v5, .int v6]) (rest := [.long v3]) hX hK hE hH (c_X5_key  _ _ _ hp) ck5 sh0 q3_36 q3_37 q3_38 q1_1 q3_39 hd_X5_key ⟨Nat.le_of_ble_eq_true rfl, Nat.le_of_ble_eq_true rfl⟩ ⟨rfl, rfl⟩ rfl hl.1 rfl (Nat.le_of_ble_eq_true rfl) dX5_mixKeys_26 ⟨Nat.zero_le _, Nat.zero_le _⟩) (fun r13 I14 H locs hpo hH => ?_)
        have hq := hq r13 I14 hpo
        refine lv_i2l hx hb dX5_mixKeys_29 rfl ?_
        obtain ⟨hp, hq⟩ := hq
        refine w_cLp hH (w_rS (As := [.long v3, .long (r13).toInt64]) (rest := []) hX hK hE hH (c_X5_mix  _ _ _ hp) q2_222 q2_223 q1_1 q2_224 hd_X5_mix.2 ⟨Nat.le_of_ble_eq_true rfl, Nat.le_of_ble_eq_true rfl⟩ ⟨rfl, rfl⟩ rfl hl.1 rfl (Nat.le_of_ble_eq_true rfl) dX5_mixKeys_30 ⟨Nat.zero_le _, Nat.zero_le _⟩) (fun r15  H locs hpo hH => ?_)
        have hq := hq r15  hpo
        refine lv_lstore_n (lv' := [(3, .long r15), (0, .ref (b + 0)), (5, .int v5), (6, .int v6)]) hx hb dX5_mixKeys_33 rfl hl (by decide) rfl (fun ls hl => ?_)
        refine lv_iinc (v := (v6 + (1 : Int32))) (lv' := [(6, .int (v6 + (1 : Int32))), (3, .long r15), (0, .ref (b + 0)), (5, .int v5)]) hx hb dX5_mixKeys_34 hl (k := 3) rfl rfl (by decide) rfl (fun ls hl => ?_)
        refine lv_goto (tgt := 14) hx hb dX5_mixKeys_37 (by decide) ?_
        exact hK14 r15 v5 (v6 + (1 : Int32)) _ _ _ _ hq hH (lv_sub hl [2, 1, 3, 0] rfl)
      · have hq := hq.2 hok
        obtain ⟨hp, hq⟩ := hq
        exact w_xI hEx hlk hH (w_xrV (As := [.int v5, .int v6]) (rest := [.long v3]) hX hK hE hH (c_X5_keyx hst  _ _ _ hp) ck5 sh0 q3_36 q3_37 q3_38 q1_1 q3_39 hd_X5_key ⟨Nat.le_of_ble_eq_true rfl, Nat.le_of_ble_eq_true rfl⟩ ⟨rfl, rfl⟩ rfl hl.1 rfl (Nat.le_of_ble_eq_true rfl) dX5_mixKeys_26 ⟨Nat.le_of_ble_eq_true rfl, Nat.le_of_ble_eq_true rfl⟩) (fun E u h => hq E u h)
set_option maxRecDepth 100000 in
set_option maxHeartbeats 4000000 in
theorem s_X5_mixKeysx_5 {x1 : Int64} {X : String → wI → Prop} (hst : l.stackTraces = false) (hEx : ∀ x ∈ c.exceptionTable.toList, False) (C0 : wCx p m c s args meth cX5_mixKeys 7 RX5 (some .long) D cs ad b) : ∀ (f : Nat) (v3 : Int64) (v5 : Int32) (I : wI) (H : Heap) (locs : List Loc) (ls : Array Slot), v_X5_mixKeysx_5 x1 X f v3 v5 I → wH D cs b G I s H locs → lv_has ls 7 [(0, .ref (b + 0)), (3, .long v3), (5, .int v5)] → W p l e rm_X5_mixKeysx s m args below meth c H locs 0 0 (vx_MQ below (va_Ql (fun (_ : Int64) (_ : wI) => False) (wPo D cs b G) (fun q => b ≤ q)) (wXC D cs b G X) args s 1 6 (fun q => b ≤ q)) (F0 m 5 ls []) := by
  obtain ⟨hX, hr, hlk, hK, hE⟩ := id C0
  have hx := hX.1
  have hb := hX.2.1
  have hown := hX.2.2.2.1
  have hts := hX.2.2.2.2
  intro f
  induction f with
  | zero =>
    intro v3 v5 I H locs ls hq
    exact hq.elim
  | succ f hK5 =>
    intro v3 v5 I H locs ls hq hH hl
    have hq : g_X5_mixKeysx_5 x1 X (v_X5_mixKeysx_5 x1 X f) v3 v5 I := hq
    unfold g_X5_mixKeysx_5 at hq
    refine lv_iload hx hb dX5_mixKeys_5 (lv_at hl 2 rfl) ?_
    refine lv_iconst (v := 5) hx hb dX5_mixKeys_7 (by decide) ?_
    refine lv_icmp_ge (tgt := 72) hx hb dX5_mixKeys_8 (by decide) (fun hc => ?_) (fun hc => ?_)
    · have hq := hq.1 hc
      refine lv_lload_n hx hb dX5_mixKeys_72 rfl (lv_at hl 1 rfl) ?_
      exact hq.elim
    · have hq := hq.2 hc
      refine lv_iconst (v := 0) hx hb dX5_mixKeys_11 (by decide) ?_
      refine lv_istore (lv' := [(6, .int (0 : Int32)), (0, .ref (b + 0)), (3, .long v3), (5, .int v5)]) hx hb dX5_mixKeys_12 hl (by decide) rfl (fun ls hl => ?_)
      obtain ⟨f, hq⟩ := hq
      exact s_X5_mixKeysx_14 hst hEx C0 hK5 f v3 v5 (0 : Int32) _ _ _ _ hq hH (lv_sub hl [1, 2, 3, 0] rfl)
set_option maxRecDepth 100000 in
set_option maxHeartbeats 4000000 in
theorem c_X5_mixKeysx {l : Launch} {D : va_G} {cs : wC4} {ad : Nat → Nat} {b : Nat} {G : wG} (hst : l.stackTraces = false) (x1 : Int64) (I : wI) (hp : pre_X5_mixKeysx x1 I) : vx_Met l yX5_mixKeys (ws_ yX5_mixKeys cX5_mixKeys 7 (some .long)) rm_X5_mixKeysx (va_Pc [.ref (b + 0), .long x1] (wPr D cs ad b G I)) (va_Ql (fun (_ : Int64) (_ : wI) => False) (wPo D cs b G) (fun q => b ≤ q)) (wXC D cs b G (exc_X5_mixKeys x1 I)) 1 6 (fun q => b ≤ q) := by
  have hq := vc_X5_mixKeysx x1 I hp
  refine w_metx (by decide) (Nat.le_of_ble_eq_true rfl) ?_
  intro p e s m below meth c hX hr hlk hEx hK hE hH ls hl
  have C0 : wCx p m c s _ meth cX5_mixKeys 7 RX5 (some .long) D cs ad b := ⟨hX, hr, hlk, hK, hE⟩
  have hX : CallFix p m c cX5_mixKeys 7 s _ lw_all RX5 := hX
  have hx := hX.1
  have hb := hX.2.1
  have hown := hX.2.2.2.1
  have hts := hX.2.2.2.2
  have hl : lv_has ls 7 [(0, .ref (b + 0)), (1, .long x1)] := hl
  unfold v_X5_mixKeysx at hq
  refine lv_lload_n hx hb dX5_mixKeys_0 rfl (lv_at hl 1 rfl) ?_
  refine lv_lstore_n (lv' := [(3, .long x1), (0, .ref (b + 0)), (1, .long x1)]) hx hb dX5_mixKeys_1 rfl hl (by decide) rfl (fun ls hl => ?_)
  refine lv_iconst (v := 0) hx hb dX5_mixKeys_2 (by decide) ?_
  refine lv_istore (lv' := [(5, .int (0 : Int32)), (3, .long x1), (0, .ref (b + 0)), (1, .long x1)]) hx hb dX5_mixKeys_3 hl (by decide) rfl (fun ls hl => ?_)
  obtain ⟨f, hq⟩ := hq
  exact s_X5_mixKeysx_5 hst hEx C0  f x1 (0 : Int32) _ _ _ _ hq hH (lv_sub hl [2, 1, 0] rfl)
abbrev rm_X5_mixPairs : Room := { frames := 10, cells := 0, slots := 0, locals := 163 }
theorem hd_X5_mixPairs : yX5_mixPairs.cls = RX5 ∧ yX5_mixPairs.cls ≠ "java/lang/invoke/MethodHandle" ∧ yX5_mixPairs.cls ≠ "java/lang/invoke/VarHandle" ∧ (parseMethodDescriptor yX5_mixPairs.desc).map (fun d => d.parameters.length) = some 1 := by decide +kernel
set_option maxRecDepth 100000 in
set_option maxHeartbeats 4000000 in
theorem s_X5_mixPairs_23 {x1 : Int64} {Q : Int64 → wI → Prop} {K5 : Int64 → Int32 → wI → Prop} {K14 : Int64 → Int32 → Int32 → wI → Prop} (C0 : wCx p m c s args meth cX5_mixPairs 8 RX5 (some .long) D cs ad b) (hK5 : ∀ (v3 : Int64) (v5 : Int32) (I : wI) (H : Heap) (locs : List Loc) (ls : Array Slot), K5 v3 v5 I → wH D cs b G I s H locs → lv_has ls 8 [(0, .ref (b + 0)), (3, .long v3), (5, .int v5)] → W p l e rm_X5_mixPairs s m args below meth c H locs 0 0 (MQ below (va_Ql (Q) (wPo D cs b G) (fun q => b ≤ q)) args s 0 0 (fun q => b ≤ q)) (F0 m 5 ls [])) (hK14 : ∀ (v3 : Int64) (v5 : Int32) (v6 : Int32) (I : wI) (H : Heap) (locs : List Loc) (ls : Array Slot), K14 v3 v5 v6 I → wH D cs b G I s H locs → lv_has ls 8 [(0, .ref (b + 0)), (3, .long v3), (5, .int v5), (6, .int v6)] → W p l e rm_X5_mixPairs s m args below meth c H locs 0 0 (MQ below (va_Ql (Q) (wPo D cs b G) (fun q => b ≤ q)) args s 0 0 (fun q => b ≤ q)) (F0 m 14 ls [])) : ∀ (f : Nat) (v3 : Int64) (v5 : Int32) (v6 : Int32) (v7 : Int32) (I : wI) (H : Heap) (locs : List Loc) (ls : Array Slot), v_X5_mixPairs_23 x1 Q K5 K14 f v3 v5 v6 v7 I → wH D cs b G I s H locs → lv_has ls 8 [(0, .ref (b + 0)), (3, .long v3), (5, .int v5), (6, .int v6), (7, .int v7)] → W p l e rm_X5_mixPairs s m args below meth c H locs 0 0 (MQ below (va_Ql (Q) (wPo D cs b G) (fun q => b ≤ q)) args s 0 0 (fun q => b ≤ q)) (F0 m 23 ls []) := by
  obtain ⟨hX, hr, hlk, hK, hE⟩ := id C0
  have hx := hX.1
  have hb := hX.2.1
  have hown := hX.2.2.2.1
  have hts := hX.2.2.2.2
  intro f
  induction f with
  | zero =>
    intro v3 v5 v6 v7 I H locs ls hq
    exact hq.elim
  | succ f hK23 =>
    intro v3 v5 v6 v7 I H locs ls hq hH hl
    have hq : g_X5_mixPairs_23 x1 Q K5 K14 (v_X5_mixPairs_23 x1 Q K5 K14 f) v3 v5 v6 v7 I := hq
    unfold g_X5_mixPairs_23 at hq
    refine lv_iload hx hb dX5_mixPairs_23 (lv_at hl 4 rfl) ?_
    refine lv_iconst (v := 4) hx hb dX5_mixPairs_25 (by decide) ?_
    refine lv_icmp_gt (tgt := 51) hx hb dX5_mixPairs_26 (by decide) (fun hc => ?_) (fun hc => ?_)
    · have hq := hq.1 hc
      refine lv_iinc (v := (v6 + (1 : Int32))) (lv' := [(6, .int (v6 + (1 : Int32))), (0, .ref (b + 0)), (3, .long v3), (5, .int v5), (7, .int v7)]) hx hb dX5_mixPairs_51 hl (k := 3) rfl rfl (by decide) rfl (fun ls hl => ?_)
      refine lv_goto (tgt := 14) hx hb dX5_mixPairs_54 (by decide) ?_
      exact hK14 v3 v5 (v6 + (1 : Int32)) _ _ _ _ hq hH (lv_sub hl [1, 2, 3, 0] rfl)
    · have hq := hq.2 hc
      refine lv_lload_n hx hb dX5_mixPairs_29 rfl (lv_at hl 1 rfl) ?_
      refine lv_aload_n hx hb dX5_mixPairs_30 rfl (lv_at hl 0 rfl) ?_
      refine lv_iload hx hb dX5_mixPairs_31 (lv_at hl 2 rfl) ?_
      refine lv_iload hx hb dX5_mixPairs_33 (lv_at hl 3 rfl) ?_
      refine lv_iload hx hb dX5_mixPairs_35 (lv_at hl 4 rfl) ?_
      obtain ⟨hp, hq⟩ := hq
      refine w_cI hH (w_rV (As := [.int v5, .int v6, .int v7]) (rest := [.long v3]) hX hK hE hH (c_X5_pair  _ _ _ _ hp) ck5 sh0 q3_85 q3_86 q3_87 q1_1 q3_88 hd_X5_pair ⟨Nat.le_of_ble_eq_true rfl, Nat.le_of_ble_eq_true rfl⟩ ⟨rfl, rfl⟩ rfl hl.1 rfl (Nat.le_of_ble_eq_true rfl) dX5_mixPairs_37 ⟨Nat.zero_le _, Nat.zero_le _⟩) (fun r1 I2 H locs hpo hH => ?_)
      have hq := hq r1 I2 hpo
      refine lv_i2l hx hb dX5_mixPairs_40 rfl ?_
      obtain ⟨hp, hq⟩ := hq
      refine w_cLp hH (w_rS (As := [.long v3, .long (r1).toInt64]) (rest := []) hX hK hE hH (c_X5_mix  _ _ _ hp) q2_222 q2_223 q1_1 q2_224 hd_X5_mix.2 ⟨Nat.le_of_ble_eq_true rfl, Nat.le_of_ble_eq_true rfl⟩ ⟨rfl, rfl⟩ rfl hl.1 rfl (Nat.le_of_ble_eq_true rfl) dX5_mixPairs_41 ⟨Nat.zero_le _, Nat.zero_le _⟩) (fun r3  H locs hpo hH => ?_)
      have hq := hq r3  hpo
      refine lv_lstore_n (lv' := [(3, .long r3), (0, .ref (b + 0)), (5, .int v5), (6, .int v6), (7, .int v7)]) hx hb dX5_mixPairs_44 rfl hl (by decide) rfl (fun ls hl => ?_)
      refine lv_iinc (v := (v7 + (1 : Int32))) (lv' := [(7, .int (v7 + (1 : Int32))), (3, .long r3), (0, .ref (b + 0)), (5, .int v5), (6, .int v6)]) hx hb dX5_mixPairs_45 hl (k := 4) rfl rfl (by decide) rfl (fun ls hl => ?_)
      refine lv_goto (tgt := 23) hx hb dX5_mixPairs_48 (by decide) ?_
      exact hK23 r3 v5 v6 (v7 + (1 : Int32)) _ _ _ _ hq hH (lv_sub hl [2, 1, 3, 4, 0] rfl)
set_option maxRecDepth 100000 in
set_option maxHeartbeats 4000000 in
theorem s_X5_mixPairs_14 {x1 : Int64} {Q : Int64 → wI → Prop} {K5 : Int64 → Int32 → wI → Prop} (C0 : wCx p m c s args meth cX5_mixPairs 8 RX5 (some .long) D cs ad b) (hK5 : ∀ (v3 : Int64) (v5 : Int32) (I : wI) (H : Heap) (locs : List Loc) (ls : Array Slot), K5 v3 v5 I → wH D cs b G I s H locs → lv_has ls 8 [(0, .ref (b + 0)), (3, .long v3), (5, .int v5)] → W p l e rm_X5_mixPairs s m args below meth c H locs 0 0 (MQ below (va_Ql (Q) (wPo D cs b G) (fun q => b ≤ q)) args s 0 0 (fun q => b ≤ q)) (F0 m 5 ls [])) : ∀ (f : Nat) (v3 : Int64) (v5 : Int32) (v6 : Int32) (I : wI) (H : Heap) (locs : List Loc) (ls : Array Slot), v_X5_mixPairs_14 x1 Q K5 f v3 v5 v6 I → wH D cs b G I s H locs → lv_has ls 8 [(0, .ref (b + 0)), (3, .long v3), (5, .int v5), (6, .int v6)] → W p l e rm_X5_mixPairs s m args below meth c H locs 0 0 (MQ below (va_Ql (Q) (wPo D cs b G) (fun q => b ≤ q)) args s 0 0 (fun q => b ≤ q)) (F0 m 14 ls []) := by
  obtain ⟨hX, hr, hlk, hK, hE⟩ := id C0
  have hx := hX.1
  have hb := hX.2.1
  have hown := hX.2.2.2.1
  have hts := hX.2.2.2.2
  intro f
  induction f with
  | zero =>
    intro v3 v5 v6 I H locs ls hq
    exact hq.elim
  | succ f hK14 =>
    intro v3 v5 v6 I H locs ls hq hH hl
    have hq : g_X5_mixPairs_14 x1 Q K5 (v_X5_mixPairs_14 x1 Q K5 f) v3 v5 v6 I := hq
    unfold g_X5_mixPairs_14 at hq
    refine lv_iload hx hb dX5_mixPairs_14 (lv_at hl 3 rfl) ?_
    refine lv_iconst (v := 5) hx hb dX5_mixPairs_16 (by decide) ?_
    refine lv_icmp_ge (tgt := 57) hx hb dX5_mixPairs_17 (by decide) (fun hc => ?_) (fun hc => ?_)
    · have hq := hq.1 hc
      refine lv_iinc (v := (v5 + (1 : Int32))) (lv' := [(5, .int (v5 + (1 : Int32))), (0, .ref (b + 0)), (3, .long v3), (6, .int v6)]) hx hb dX5_mixPairs_57 hl (k := 2) rfl rfl (by decide) rfl (fun ls hl => ?_)
      refine lv_goto (tgt := 5) hx hb dX5_mixPairs_60 (by decide) ?_
      exact hK5 v3 (v5 + (1 : Int32)) _ _ _ _ hq hH (lv_sub hl [1, 2, 0] rfl)
    · have hq := hq.2 hc
      refine lv_iconst (v := 0) hx hb dX5_mixPairs_20 (by decide) ?_
      refine lv_istore (lv' := [(7, .int (0 : Int32)), (0, .ref (b + 0)), (3, .long v3), (5, .int v5), (6, .int v6)]) hx hb dX5_mixPairs_21 hl (by decide) rfl (fun ls hl => ?_)
      obtain ⟨f, hq⟩ := hq
      exact s_X5_mixPairs_23  C0 hK5 hK14 f v3 v5 v6 (0 : Int32) _ _ _ _ hq hH (lv_sub hl [1, 2, 3, 4, 0] rfl)
set_option maxRecDepth 100000 in
set_option maxHeartbeats 4000000 in
theorem s_X5_mixPairs_5 {x1 : Int64} {Q : Int64 → wI → Prop} (C0 : wCx p m c s args meth cX5_mixPairs 8 RX5 (some .long) D cs ad b) : ∀ (f : Nat) (v3 : Int64) (v5 : Int32) (I : wI) (H : Heap) (locs : List Loc) (ls : Array Slot), v_X5_mixPairs_5 x1 Q f v3 v5 I → wH D cs b G I s H locs → lv_has ls 8 [(0, .ref (b + 0)), (3, .long v3), (5, .int v5)] → W p l e rm_X5_mixPairs s m args below meth c H locs 0 0 (MQ below (va_Ql (Q) (wPo D cs b G) (fun q => b ≤ q)) args s 0 0 (fun q => b ≤ q)) (F0 m 5 ls []) := by
  obtain ⟨hX, hr, hlk, hK, hE⟩ := id C0
  have hx := hX.1
  have hb := hX.2.1
  have hown := hX.2.2.2.1
  have hts := hX.2.2.2.2
  intro f
  induction f with
  | zero =>
    intro v3 v5 I H locs ls hq
    exact hq.elim
  | succ f hK5 =>
    intro v3 v5 I H locs ls hq hH hl
    have hq : g_X5_mixPairs_5 x1 Q (v_X5_mixPairs_5 x1 Q f) v3 v5 I := hq
    unfold g_X5_mixPairs_5 at hq
    refine lv_iload hx hb dX5_mixPairs_5 (lv_at hl 2 rfl) ?_
    refine lv_iconst (v := 5) hx hb dX5_mixPairs_7 (by decide) ?_
    refine lv_icmp_ge (tgt := 63) hx hb dX5_mixPairs_8 (by decide) (fun hc => ?_) (fun hc => ?_)
    · have hq := hq.1 hc
      refine lv_lload_n hx hb dX5_mixPairs_63 rfl (lv_at hl 1 rfl) ?_
      exact w_eL hX hr hlk hH hq dX5_mixPairs_64
    · have hq := hq.2 hc
      refine lv_iconst (v := 0) hx hb dX5_mixPairs_11 (by decide) ?_
      refine lv_istore (lv' := [(6, .int (0 : Int32)), (0, .ref (b + 0)), (3, .long v3), (5, .int v5)]) hx hb dX5_mixPairs_12 hl (by decide) rfl (fun ls hl => ?_)
      obtain ⟨f, hq⟩ := hq
      exact s_X5_mixPairs_14  C0 hK5 f v3 v5 (0 : Int32) _ _ _ _ hq hH (lv_sub hl [1, 2, 3, 0] rfl)
set_option maxRecDepth 100000 in
set_option maxHeartbeats 4000000 in
theorem c_X5_mixPairs {l : Launch} {D : va_G} {cs : wC4} {ad : Nat → Nat} {b : Nat} {G : wG} (x1 : Int64) (I : wI) (hp : pre_X5_mixPairs x1 I) : Met l yX5_mixPairs (ws_ yX5_mixPairs cX5_mixPairs 8 (some .long)) rm_X5_mixPairs (va_Pc [.ref (b + 0), .long x1] (wPr D cs ad b G I)) (va_Ql (fun r I' => post_X5_mixPairs x1 I r I') (wPo D cs b G) (fun q => b ≤ q)) 0 0 (fun q => b ≤ q) := by
  have hq := vc_X5_mixPairs x1 I hp
  refine w_met (by decide) (Nat.le_of_ble_eq_true rfl) ?_
  intro p e s m below meth c hX hr hlk hK hE hH ls hl
  have C0 : wCx p m c s _ meth cX5_mixPairs 8 RX5 (some .long) D cs ad b := ⟨hX, hr, hlk, hK, hE⟩
  have hX : CallFix p m c cX5_mixPairs 8 s _ lw_all RX5 := hX
  have hx := hX.1
  have hb := hX.2.1
  have hown := hX.2.2.2.1
  have hts := hX.2.2.2.2
  have hl : lv_has ls 8 [(0, .ref (b + 0)), (1, .long x1)] := hl
  unfold v_X5_mixPairs at hq
  refine lv_lload_n hx hb dX5_mixPairs_0 rfl (lv_at hl 1 rfl) ?_
  refine lv_lstore_n (lv' := [(3, .long x1), (0, .ref (b + 0)), (1, .long x1)]) hx hb dX5_mixPairs_1 rfl hl (by decide) rfl (fun ls hl => ?_)
  refine lv_iconst (v := 0) hx hb dX5_mixPairs_2 (by decide) ?_
  refine lv_istore (lv' := [(5, .int (0 : Int32)), (3, .long x1), (0, .ref (b + 0)), (1, .long x1)]) hx hb dX5_mixPairs_3 hl (by decide) rfl (fun ls hl => ?_)
  obtain ⟨f, hq⟩ := hq
  exact s_X5_mixPairs_5  C0  f x1 (0 : Int32) _ _ _ _ hq hH (lv_sub hl [2, 1, 0] rfl)
end
