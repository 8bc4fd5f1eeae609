section
variable {p : Program} {l : Launch} {e : Env} {s : State} {m : MethodId} {args : Array Value} {below : List Frame} {meth : Method} {c : Code} {D : va_G} {cs : wC4} {ad : Nat → Nat} {b : Nat} {G : wG}
abbrev rm_X5_cut : Room := { frames := 9, cells := 0, slots := 0, locals := 140 }
theorem hd_X5_cut : yX5_cut.cls = RX5 ∧ yX5_cut.cls ≠ "java/lang/invoke/MethodHandle" ∧ yX5_cut.cls ≠ "java/lang/invoke/VarHandle" ∧ (parseMethodDescriptor yX5_cut.desc).map (fun d => d.parameters.length) = some 3 := by decide +kernel
set_option maxRecDepth 100000 in
set_option maxHeartbeats 4000000 in
theorem s_X5_cut_20 {x1 : Int32} {x2 : Int32} {x3 : Int32} {Q : Int32 → wI → Prop} (C0 : wCx p m c s args meth cX5_cut 5 RX5 (some .int) D cs ad b) : ∀  (I : wI) (H : Heap) (locs : List Loc) (ls : Array Slot), v_X5_cut_20 x1 x2 x3 Q  I → wH D cs b G I s H locs → lv_has ls 5 [] → W p l e rm_X5_cut s m args below meth c H locs 0 0 (MQ below (va_Qi (Q) (wPo D cs b G) (fun q => b ≤ q)) args s 0 0 (fun q => b ≤ q)) (F0 m 20 ls []) := by
  obtain ⟨hX, hr, hlk, hK, hE⟩ := id C0
  have hx := hX.1
  have hb := hX.2.1
  have hown := hX.2.2.2.1
  have hts := hX.2.2.2.2
  intro  I H locs ls hq hH hl
  unfold v_X5_cut_20 at hq
  exact hq.elim
set_option maxRecDepth 100000 in
set_option maxHeartbeats 4000000 in
theorem c_X5_cut {l : Launch} {D : va_G} {cs : wC4} {ad : Nat → Nat} {b : Nat} {G : wG} (x1 : Int32) (x2 : Int32) (x3 : Int32) (I : wI) (hp : pre_X5_cut x1 x2 x3 I) : Met l yX5_cut (ws_ yX5_cut cX5_cut 5 (some .int)) rm_X5_cut (va_Pc [.ref (b + 0), .int x1, .int x2, .int x3] (wPr D cs ad b G I)) (va_Qi (fun r I' => post_X5_cut x1 x2 x3 I r I') (wPo D cs b G) (fun q => b ≤ q)) 0 0 (fun q => b ≤ q) := by
  have hq := vc_X5_cut x1 x2 x3 I hp
  refine w_met (by decide) (Nat.le_of_ble_eq_true rfl) ?_
  intro p e s m below meth c hX hr hlk hK hE hH ls hl
  have C0 : wCx p m c s _ meth cX5_cut 5 RX5 (some .int) D cs ad b := ⟨hX, hr, hlk, hK, hE⟩
  have hX : CallFix p m c cX5_cut 5 s _ lw_all RX5 := hX
  have hx := hX.1
  have hb := hX.2.1
  have hown := hX.2.2.2.1
  have hts := hX.2.2.2.2
  have hl : lv_has ls 5 [(0, .ref (b + 0)), (1, .int x1), (2, .int x2), (3, .int x3)] := hl
  unfold v_X5_cut at hq
  refine lv_iload_n hx hb dX5_cut_0 rfl (lv_at hl 1 rfl) ?_
  obtain ⟨hp, hq⟩ := hq
  refine w_cVp hH (w_rS (As := [.int x1]) (rest := []) hX hK hE hH (c_X5_requireKey  _ _ hp) q3_40 q3_41 q1_1 q3_42 hd_X5_requireKey.2 ⟨Nat.le_of_ble_eq_true rfl, Nat.le_of_ble_eq_true rfl⟩ ⟨rfl, rfl⟩ rfl hl.1 rfl (Nat.le_of_ble_eq_true rfl) dX5_cut_1 ⟨Nat.zero_le _, Nat.zero_le _⟩) (fun   H locs hpo hH => ?_)
  have hq := hq   hpo
  refine lv_iload_n hx hb dX5_cut_4 rfl (lv_at hl 2 rfl) ?_
  obtain ⟨hp, hq⟩ := hq
  refine w_cIp hH (w_rS (As := [.int x2]) (rest := []) hX hK hE hH (c_X5_isKeyMask  _ _ hp) q3_216 q3_217 q1_1 q3_218 hd_X5_isKeyMask.2 ⟨Nat.le_of_ble_eq_true rfl, Nat.le_of_ble_eq_true rfl⟩ ⟨rfl, rfl⟩ rfl hl.1 rfl (Nat.le_of_ble_eq_true rfl) dX5_cut_5 ⟨Nat.zero_le _, Nat.zero_le _⟩) (fun r1  H locs hpo hH => ?_)
  have hq := hq r1  hpo
  refine lv_if_eq (tgt := 20) hx hb dX5_cut_8 (by decide) (fun hc => ?_) (fun hc => ?_)
  · have hq := hq.1 hc
    exact s_X5_cut_20  C0   _ _ _ _ hq hH (lv_sub hl [] rfl)
  · have hq := hq.2 hc
    refine lv_iload_n hx hb dX5_cut_11 rfl (lv_at hl 3 rfl) ?_
    refine lv_if_lt (tgt := 20) hx hb dX5_cut_12 (by decide) (fun hc => ?_) (fun hc => ?_)
    · have hq := hq.1 hc
      exact s_X5_cut_20  C0   _ _ _ _ hq hH (lv_sub hl [] rfl)
    · have hq := hq.2 hc
      refine lv_iload_n hx hb dX5_cut_15 rfl (lv_at hl 3 rfl) ?_
      refine lv_iconst (v := 5) hx hb dX5_cut_16 (by decide) ?_
      refine lv_icmp_lt (tgt := 30) hx hb dX5_cut_17 (by decide) (fun hc => ?_) (fun hc => ?_)
      · have hq := hq.1 hc
        refine lv_aload_n hx hb dX5_cut_30 rfl (lv_at hl 0 rfl) ?_
        obtain ⟨hp, hq⟩ := hq
        refine w_cV hH (w_rV (As := []) (rest := []) hX hK hE hH (c_X5_save   _ hp) ck5 sh0 q1_210 q1_212 qs0 q1_1 q1_213 hd_X5_save ⟨Nat.le_of_ble_eq_true rfl, Nat.le_of_ble_eq_true rfl⟩ ⟨rfl, rfl⟩ rfl hl.1 rfl (Nat.le_of_ble_eq_true rfl) dX5_cut_31 ⟨Nat.zero_le _, Nat.zero_le _⟩) (fun  I2 H locs hpo hH => ?_)
        have hq := hq  I2 hpo
        refine lv_aload_n hx hb dX5_cut_34 rfl (lv_at hl 0 rfl) ?_
        refine w_getr hX hK hH ck5 sh0 0 1 1 fr5_0 rfl q1_178 dX5_cut_35 ?_
        refine w_getrN hX hK hE hH ck3 (sf5_0 sh0) 1 4 5 fr3_1 rfl qn1_64 dX5_cut_38 ?_
        refine lv_iload_n hx hb dX5_cut_41 rfl (lv_at hl 1 rfl) ?_
        obtain ⟨hp, hq⟩ := hq
        refine w_cIp hH (w_rV (As := [.int x1]) (rest := []) hX hK hE hH (c_X1_maskOf (sf3_1 (sf5_0 sh0)) _ _ hp) ck1 (sf3_1 (sf5_0 sh0)) q3_44 q2_100 q2_101 q1_4 q2_102 hd_X1_maskOf ⟨Nat.le_of_ble_eq_true rfl, Nat.le_of_ble_eq_true rfl⟩ ⟨rfl, rfl⟩ rfl hl.1 rfl (Nat.le_of_ble_eq_true rfl) dX5_cut_42 ⟨Nat.zero_le _, Nat.zero_le _⟩) (fun r3  H locs hpo hH => ?_)
        have hq := hq r3  hpo
        refine lv_istore (lv' := [(4, .int r3), (0, .ref (b + 0)), (1, .int x1), (2, .int x2), (3, .int x3)]) hx hb dX5_cut_45 hl (by decide) rfl (fun ls hl => ?_)
        refine lv_aload_n hx hb dX5_cut_47 rfl (lv_at hl 1 rfl) ?_
        refine w_getr hX hK hH ck5 sh0 0 1 1 fr5_0 rfl q1_178 dX5_cut_48 ?_
        refine w_getrN hX hK hE hH ck3 (sf5_0 sh0) 1 4 5 fr3_1 rfl qn1_64 dX5_cut_51 ?_
        refine lv_iload_n hx hb dX5_cut_54 rfl (lv_at hl 2 rfl) ?_
        refine lv_iload_n hx hb dX5_cut_55 rfl (lv_at hl 3 rfl) ?_
        refine lv_iload_n hx hb dX5_cut_56 rfl (lv_at hl 4 rfl) ?_
        obtain ⟨hp, hq⟩ := hq
        refine w_cV hH (w_rV (As := [.int x1, .int x2, .int x3]) (rest := []) hX hK hE hH (c_X1_shape (sf3_1 (sf5_0 sh0)) _ _ _ _ hp) ck1 (sf3_1 (sf5_0 sh0)) q3_220 q3_221 q3_222 q1_4 q3_223 hd_X1_shape ⟨Nat.le_of_ble_eq_true rfl, Nat.le_of_ble_eq_true rfl⟩ ⟨rfl, rfl⟩ rfl hl.1 rfl (Nat.le_of_ble_eq_true rfl) dX5_cut_57 ⟨Nat.zero_le _, Nat.zero_le _⟩) (fun  I4 H locs hpo hH => ?_)
        have hq := hq  I4 hpo
        refine lv_iload hx hb dX5_cut_60 (lv_at hl 0 rfl) ?_
        exact w_eI hX hr hlk hH hq dX5_cut_62
      · have hq := hq.2 hc
        exact s_X5_cut_20  C0   _ _ _ _ hq hH (lv_sub hl [] rfl)
abbrev rm_X5_cutx : Room := { frames := 9, cells := 1, slots := 6, locals := 140 }

set_option maxRecDepth 100000 in
set_option maxHeartbeats 4000000 in
theorem s_X5_cutx_20 {x1 : Int32} {x2 : Int32} {x3 : Int32} {X : String → wI → Prop} (hst : l.stackTraces = false) (hEx : ∀ x ∈ c.exceptionTable.toList, False) (C0 : wCx p m c s args meth cX5_cut 5 RX5 (some .int) D cs ad b) : ∀  (I : wI) (H : Heap) (locs : List Loc) (ls : Array Slot), v_X5_cutx_20 x1 x2 x3 X  I → wH D cs b G I s H locs → lv_has ls 5 [] → W p l e rm_X5_cutx s m args below meth c H locs 0 0 (vx_MQ below (va_Qi (fun (_ : Int32) (_ : wI) => False) (wPo D cs b G) (fun q => b ≤ q)) (wXC D cs b G X) args s 1 6 (fun q => b ≤ q)) (F0 m 20 ls []) := by
  obtain ⟨hX, hr, hlk, hK, hE⟩ := id C0
  have hx := hX.1
  have hb := hX.2.1
  have hown := hX.2.2.2.1
  have hts := hX.2.2.2.2
  intro  I H locs ls hq hH hl
  unfold v_X5_cutx_20 at hq
  exact w_throw th_X5_66_122_70 hX hst hlk hEx hE hH hl.1 dX5_cut_20 dX5_cut_23 dX5_cut_24 dX5_cut_26 dX5_cut_29 ⟨Nat.le_of_ble_eq_true rfl, Nat.le_of_ble_eq_true rfl, Nat.le_of_ble_eq_true rfl, Nat.le_of_ble_eq_true rfl⟩ hq
set_option maxRecDepth 100000 in
set_option maxHeartbeats 4000000 in
theorem c_X5_cutx {l : Launch} {D : va_G} {cs : wC4} {ad : Nat → Nat} {b : Nat} {G : wG} (hst : l.stackTraces = false) (x1 : Int32) (x2 : Int32) (x3 : Int32) (I : wI) (hp : pre_X5_cutx x1 x2 x3 I) : vx_Met l yX5_cut (ws_ yX5_cut cX5_cut 5 (some .int)) rm_X5_cutx (va_Pc [.ref (b + 0), .int x1, .int x2, .int x3] (wPr D cs ad b G I)) (va_Qi (fun (_ : Int32) (_ : wI) => False) (wPo D cs b G) (fun q => b ≤ q)) (wXC D cs b G (exc_X5_cut x1 x2 x3 I)) 1 6 (fun q => b ≤ q) := by
  have hq := vc_X5_cutx x1 x2 x3 I hp
  refine w_metx (by decide) (Nat.le_of_ble_eq_true rfl) ?_
  intro p e s m below meth c hX hr hlk hEx hK hE hH ls hl
  have C0 : wCx p m c s _ meth cX5_cut 5 RX5 (some .int) D cs ad b := ⟨hX, hr, hlk, hK, hE⟩
  have hX : CallFix p m c cX5_cut 5 s _ lw_all RX5 := hX
  have hx := hX.1
  have hb := hX.2.1
  have hown := hX.2.2.2.1
  have hts := hX.2.2.2.2
  have hl : lv_has ls 5 [(0, .ref (b + 0)), (1, .int x1), (2, .int x2), (3, .int x3)] := hl
  unfold v_X5_cutx at hq
  refine lv_iload_n hx hb dX5_cut_0 rfl (lv_at hl 1 rfl) ?_
  by_cases hok : ok_X5_requireKey x1 I
  · have hq := hq.1 hok
    obtain ⟨hp, hq⟩ := hq
    refine w_cVp hH (w_rS (As := [.int x1]) (rest := []) hX hK hE hH (c_X5_requireKey  _ _ hp) q3_40 q3_41 q1_1 q3_42 hd_X5_requireKey.2 ⟨Nat.le_of_ble_eq_true rfl, Nat.le_of_ble_eq_true rfl⟩ ⟨rfl, rfl⟩ rfl hl.1 rfl (Nat.le_of_ble_eq_true rfl) dX5_cut_1 ⟨Nat.zero_le _, Nat.zero_le _⟩) (fun   H locs hpo hH => ?_)
    have hq := hq   hpo
    refine lv_iload_n hx hb dX5_cut_4 rfl (lv_at hl 2 rfl) ?_
    obtain ⟨hp, hq⟩ := hq
    refine w_cIp hH (w_rS (As := [.int x2]) (rest := []) hX hK hE hH (c_X5_isKeyMask  _ _ hp) q3_216 q3_217 q1_1 q3_218 hd_X5_isKeyMask.2 ⟨Nat.le_of_ble_eq_true rfl, Nat.le_of_ble_eq_true rfl⟩ ⟨rfl, rfl⟩ rfl hl.1 rfl (Nat.le_of_ble_eq_true rfl) dX5_cut_5 ⟨Nat.zero_le _, Nat.zero_le _⟩) (fun r1  H locs hpo hH => ?_)
    have hq := hq r1  hpo
    refine lv_if_eq (tgt := 20) hx hb dX5_cut_8 (by decide) (fun hc => ?_) (fun hc => ?_)
    · have hq := hq.1 hc
      exact s_X5_cutx_20 hst hEx C0   _ _ _ _ hq hH (lv_sub hl [] rfl)
    · have hq := hq.2 hc
      refine lv_iload_n hx hb dX5_cut_11 rfl (lv_at hl 3 rfl) ?_
      refine lv_if_lt (tgt := 20) hx hb dX5_cut_12 (by decide) (fun hc => ?_) (fun hc => ?_)
      · have hq := hq.1 hc
        exact s_X5_cutx_20 hst hEx C0   _ _ _ _ hq hH (lv_sub hl [] rfl)
      · have hq := hq.2 hc
        refine lv_iload_n hx hb dX5_cut_15 rfl (lv_at hl 3 rfl) ?_
        refine lv_iconst (v := 5) hx hb dX5_cut_16 (by decide) ?_
        refine lv_icmp_lt (tgt := 30) hx hb dX5_cut_17 (by decide) (fun hc => ?_) (fun hc => ?_)
        · have hq := hq.1 hc
          refine lv_aload_n hx hb dX5_cut_30 rfl (lv_at hl 0 rfl) ?_
          obtain ⟨hp, hq⟩ := hq
          refine w_cV hH (w_rV (As := []) (rest := []) hX hK hE hH (c_X5_save   _ hp) ck5 sh0 q1_210 q1_212 qs0 q1_1 q1_213 hd_X5_save ⟨Nat.le_of_ble_eq_true rfl, Nat.le_of_ble_eq_true rfl⟩ ⟨rfl, rfl⟩ rfl hl.1 rfl (Nat.le_of_ble_eq_true rfl) dX5_cut_31 ⟨Nat.zero_le _, Nat.zero_le _⟩) (fun  I2 H locs hpo hH => ?_)
          have hq := hq  I2 hpo
          refine lv_aload_n hx hb dX5_cut_34 rfl (lv_at hl 0 rfl) ?_
          refine w_getr hX hK hH ck5 sh0 0 1 1 fr5_0 rfl q1_178 dX5_cut_35 ?_
          refine w_getrN hX hK hE hH ck3 (sf5_0 sh0) 1 4 5 fr3_1 rfl qn1_64 dX5_cut_38 ?_
          refine lv_iload_n hx hb dX5_cut_41 rfl (lv_at hl 1 rfl) ?_
          obtain ⟨hp, hq⟩ := hq
          refine w_cIp hH (w_rV (As := [.int x1]) (rest := []) hX hK hE hH (c_X1_maskOf (sf3_1 (sf5_0 sh0)) _ _ hp) ck1 (sf3_1 (sf5_0 sh0)) q3_44 q2_100 q2_101 q1_4 q2_102 hd_X1_maskOf ⟨Nat.le_of_ble_eq_true rfl, Nat.le_of_ble_eq_true rfl⟩ ⟨rfl, rfl⟩ rfl hl.1 rfl (Nat.le_of_ble_eq_true rfl) dX5_cut_42 ⟨Nat.zero_le _, Nat.zero_le _⟩) (fun r3  H locs hpo hH => ?_)
          have hq := hq r3  hpo
          refine lv_istore (lv' := [(4, .int r3), (0, .ref (b + 0)), (1, .int x1), (2, .int x2), (3, .int x3)]) hx hb dX5_cut_45 hl (by decide) rfl (fun ls hl => ?_)
          refine lv_aload_n hx hb dX5_cut_47 rfl (lv_at hl 1 rfl) ?_
          refine w_getr hX hK hH ck5 sh0 0 1 1 fr5_0 rfl q1_178 dX5_cut_48 ?_
          refine w_getrN hX hK hE hH ck3 (sf5_0 sh0) 1 4 5 fr3_1 rfl qn1_64 dX5_cut_51 ?_
          refine lv_iload_n hx hb dX5_cut_54 rfl (lv_at hl 2 rfl) ?_
          refine lv_iload_n hx hb dX5_cut_55 rfl (lv_at hl 3 rfl) ?_
          refine lv_iload_n hx hb dX5_cut_56 rfl (lv_at hl 4 rfl) ?_
          obtain ⟨hp, hq⟩ := hq
          refine w_cV hH (w_rV (As := [.int x1, .int x2, .int x3]) (rest := []) hX hK hE hH (c_X1_shape (sf3_1 (sf5_0 sh0)) _ _ _ _ hp) ck1 (sf3_1 (sf5_0 sh0)) q3_220 q3_221 q3_222 q1_4 q3_223 hd_X1_shape ⟨Nat.le_of_ble_eq_true rfl, Nat.le_of_ble_eq_true rfl⟩ ⟨rfl, rfl⟩ rfl hl.1 rfl (Nat.le_of_ble_eq_true rfl) dX5_cut_57 ⟨Nat.zero_le _, Nat.zero_le _⟩) (fun  I4 H locs hpo hH => ?_)
          have hq := hq  I4 hpo
          refine lv_iload hx hb dX5_cut_60 (lv_at hl 0 rfl) ?_
          exact hq.elim
        · have hq := hq.2 hc
          exact s_X5_cutx_20 hst hEx C0   _ _ _ _ hq hH (lv_sub hl [] rfl)
  · have hq := hq.2 hok
    obtain ⟨hp, hq⟩ := hq
    exact w_xV hEx hlk hH (w_xrS (As := [.int x1]) (rest := []) hX hK hE hH (c_X5_requireKeyx hst  _ _ hp) q3_40 q3_41 q1_1 q3_42 hd_X5_requireKey.2 ⟨Nat.le_of_ble_eq_true rfl, Nat.le_of_ble_eq_true rfl⟩ ⟨rfl, rfl⟩ rfl hl.1 rfl (Nat.le_of_ble_eq_true rfl) dX5_cut_1 ⟨Nat.le_of_ble_eq_true rfl, Nat.le_of_ble_eq_true rfl⟩) (fun E u h => by obtain ⟨h1, h2⟩ := h; subst h1; exact hq E h2)
abbrev rm_X5_requirePosition : Room := { frames := 8, cells := 0, slots := 0, locals := 120 }
theorem hd_X5_requirePosition : yX5_requirePosition.cls = RX5 ∧ yX5_requirePosition.cls ≠ "java/lang/invoke/MethodHandle" ∧ yX5_requirePosition.cls ≠ "java/lang/invoke/VarHandle" ∧ (parseMethodDescriptor yX5_requirePosition.desc).map (fun d => d.parameters.length) = some 1 := by decide +kernel
set_option maxRecDepth 100000 in
set_option maxHeartbeats 4000000 in
theorem s_X5_requirePosition_10 {x0 : Int32} {I : wI} {Q : Prop} (C0 : wCx p m c s args meth cX5_requirePosition 1 RX5 none D cs ad b) : ∀  (H : Heap) (locs : List Loc) (ls : Array Slot), v_X5_requirePosition_10 x0 I Q  → wH D cs b G I s H locs → lv_has ls 1 [] → W p l e rm_X5_requirePosition s m args below meth c H locs 0 0 (MQ below (va_Qv (fun I' => I' = I ∧ Q) (wPo D cs b G) (fun q => b ≤ q)) args s 0 0 (fun q => b ≤ q)) (F0 m 10 ls []) := by
  obtain ⟨hX, hr, hlk, hK, hE⟩ := id C0
  have hx := hX.1
  have hb := hX.2.1
  have hown := hX.2.2.2.1
  have hts := hX.2.2.2.2
  intro  H locs ls hq hH hl
  unfold v_X5_requirePosition_10 at hq
  exact hq.elim
set_option maxRecDepth 100000 in
set_option maxHeartbeats 4000000 in
theorem c_X5_requirePosition {l : Launch} {D : va_G} {cs : wC4} {ad : Nat → Nat} {b : Nat} {G : wG} (x0 : Int32) (I : wI) (hp : pre_X5_requirePosition x0 I) : Met l yX5_requirePosition (ws_ yX5_requirePosition cX5_requirePosition 1 none) rm_X5_requirePosition (va_Pc [.int x0] (wPr D cs ad b G I)) (va_Qv (fun I' => I' = I ∧ post_X5_requirePosition x0 I) (wPo D cs b G) (fun q => b ≤ q)) 0 0 (fun q => b ≤ q) := by
  have hq := vc_X5_requirePosition x0 I hp
  refine w_met (by decide) (Nat.le_of_ble_eq_true rfl) ?_
  intro p e s m below meth c hX hr hlk hK hE hH ls hl
  have C0 : wCx p m c s _ meth cX5_requirePosition 1 RX5 none D cs ad b := ⟨hX, hr, hlk, hK, hE⟩
  have hX : CallFix p m c cX5_requirePosition 1 s _ lw_all RX5 := hX
  have hx := hX.1
  have hb := hX.2.1
  have hown := hX.2.2.2.1
  have hts := hX.2.2.2.2
  have hl : lv_has ls 1 [(0, .int x0)] := hl
  unfold v_X5_requirePosition at hq
  refine lv_iload_n hx hb dX5_requirePosition_0 rfl (lv_at hl 0 rfl) ?_
  refine lv_if_lt (tgt := 10) hx hb dX5_requirePosition_1 (by decide) (fun hc => ?_) (fun hc => ?_)
  · have hq := hq.1 hc
    exact s_X5_requirePosition_10  C0   _ _ _ hq hH (lv_sub hl [] rfl)
  · have hq := hq.2 hc
    refine lv_iload_n hx hb dX5_requirePosition_4 rfl (lv_at hl 0 rfl) ?_
    refine lv_bipush (v := 6) hx hb dX5_requirePosition_5 (by decide) ?_
    refine lv_icmp_lt (tgt := 21) hx hb dX5_requirePosition_7 (by decide) (fun hc => ?_) (fun hc => ?_)
    · have hq := hq.1 hc
      exact w_eV hX hr hlk hH ⟨rfl, hq⟩ dX5_requirePosition_21
    · have hq := hq.2 hc
      exact s_X5_requirePosition_10  C0   _ _ _ hq hH (lv_sub hl [] rfl)
abbrev rm_X5_requirePositionx : Room := { frames := 8, cells := 1, slots := 6, locals := 120 }

set_option maxRecDepth 100000 in
set_option maxHeartbeats 4000000 in
theorem s_X5_requirePositionx_10 {x0 : Int32} {I : wI} {X : String → Prop} (hst : l.stackTraces = false) (hEx : ∀ x ∈ c.exceptionTable.toList, False) (C0 : wCx p m c s args meth cX5_requirePosition 1 RX5 none D cs ad b) : ∀  (H : Heap) (locs : List Loc) (ls : Array Slot), v_X5_requirePositionx_10 x0 I X  → wH D cs b G I s H locs → lv_has ls 1 [] → W p l e rm_X5_requirePositionx s m args below meth c H locs 0 0 (vx_MQ below (va_Qv (fun (_ : wI) => False) (wPo D cs b G) (fun q => b ≤ q)) (wXC D cs b G (fun E I' => I' = I ∧ X E)) args s 1 6 (fun q => b ≤ q)) (F0 m 10 ls []) := by
  obtain ⟨hX, hr, hlk, hK, hE⟩ := id C0
  have hx := hX.1
  have hb := hX.2.1
  have hown := hX.2.2.2.1
  have hts := hX.2.2.2.2
  intro  H locs ls hq hH hl
  unfold v_X5_requirePositionx_10 at hq
  exact w_throwW th_X5_302_307_306 hX hst hlk hEx hE hH hl.1 dX5_requirePosition_10 dX5_requirePosition_13 dX5_requirePosition_14 dX5_requirePosition_17 dX5_requirePosition_20 ⟨Nat.le_of_ble_eq_true rfl, Nat.le_of_ble_eq_true rfl, Nat.le_of_ble_eq_true rfl, Nat.le_of_ble_eq_true rfl⟩ ⟨rfl, hq⟩
set_option maxRecDepth 100000 in
set_option maxHeartbeats 4000000 in
theorem c_X5_requirePositionx {l : Launch} {D : va_G} {cs : wC4} {ad : Nat → Nat} {b : Nat} {G : wG} (hst : l.stackTraces = false) (x0 : Int32) (I : wI) (hp : pre_X5_requirePositionx x0 I) : vx_Met l yX5_requirePosition (ws_ yX5_requirePosition cX5_requirePosition 1 none) rm_X5_requirePositionx (va_Pc [.int x0] (wPr D cs ad b G I)) (va_Qv (fun (_ : wI) => False) (wPo D cs b G) (fun q => b ≤ q)) (wXC D cs b G (fun E I' => I' = I ∧ exc_X5_requirePosition x0 I E)) 1 6 (fun q => b ≤ q) := by
  have hq := vc_X5_requirePositionx x0 I hp
  refine w_metx (by decide) (Nat.le_of_ble_eq_true rfl) ?_
  intro p e s m below meth c hX hr hlk hEx hK hE hH ls hl
  have C0 : wCx p m c s _ meth cX5_requirePosition 1 RX5 none D cs ad b := ⟨hX, hr, hlk, hK, hE⟩
  have hX : CallFix p m c cX5_requirePosition 1 s _ lw_all RX5 := hX
  have hx := hX.1
  have hb := hX.2.1
  have hown := hX.2.2.2.1
  have hts := hX.2.2.2.2
  have hl : lv_has ls 1 [(0, .int x0)] := hl
  unfold v_X5_requirePositionx at hq
  refine lv_iload_n hx hb dX5_requirePosition_0 rfl (lv_at hl 0 rfl) ?_
  refine lv_if_lt (tgt := 10) hx hb dX5_requirePosition_1 (by decide) (fun hc => ?_) (fun hc => ?_)
  · have hq := hq.1 hc
    exact s_X5_requirePositionx_10 hst hEx C0   _ _ _ hq hH (lv_sub hl [] rfl)
  · have hq := hq.2 hc
    refine lv_iload_n hx hb dX5_requirePosition_4 rfl (lv_at hl 0 rfl) ?_
    refine lv_bipush (v := 6) hx hb dX5_requirePosition_5 (by decide) ?_
    refine lv_icmp_lt (tgt := 21) hx hb dX5_requirePosition_7 (by decide) (fun hc => ?_) (fun hc => ?_)
    · have hq := hq.1 hc
      exact hq.elim
    · have hq := hq.2 hc
      exact s_X5_requirePositionx_10 hst hEx C0   _ _ _ hq hH (lv_sub hl [] rfl)
abbrev rm_X3_stuckKeys : Room := { frames := 2, cells := 0, slots := 0, locals := 42 }
theorem hd_X3_stuckKeys : yX3_stuckKeys.cls = RX3 ∧ yX3_stuckKeys.cls ≠ "java/lang/invoke/MethodHandle" ∧ yX3_stuckKeys.cls ≠ "java/lang/invoke/VarHandle" ∧ (parseMethodDescriptor yX3_stuckKeys.desc).map (fun d => d.parameters.length) = some 0 := by decide +kernel
set_option maxRecDepth 100000 in
set_option maxHeartbeats 4000000 in
theorem s_X3_stuckKeys_20 {k : Nat} {I : wI} {Q : Int32 → Prop} {K4 : Int32 → Int32 → Prop} (hs : wSh k = (0, 3)) (C0 : wCx p m c s args meth cX3_stuckKeys 3 RX3 (some .int) D cs ad b) (hK4 : ∀ (v1 : Int32) (v2 : Int32) (H : Heap) (locs : List Loc) (ls : Array Slot), K4 v1 v2 → wH D cs b G I s H locs → lv_has ls 3 [(0, .ref (b + k)), (1, .int v1), (2, .int v2)] → W p l e rm_X3_stuckKeys s m args below meth c H locs 0 0 (MQ below (va_Qi (fun r I' => I' = I ∧ Q r) (wPo D cs b G) (fun q => b ≤ q)) args s 0 0 (fun q => b ≤ q)) (F0 m 4 ls [])) : ∀ (v1 : Int32) (v2 : Int32) (H : Heap) (locs : List Loc) (ls : Array Slot), v_X3_stuckKeys_20 k I Q K4 v1 v2 → wH D cs b G I s H locs → lv_has ls 3 [(0, .ref (b + k)), (1, .int v1), (2, .int v2)] → W p l e rm_X3_stuckKeys s m args below meth c H locs 0 0 (MQ below (va_Qi (fun r I' => I' = I ∧ Q r) (wPo D cs b G) (fun q => b ≤ q)) args s 0 0 (fun q => b ≤ q)) (F0 m 20 ls []) := by
  obtain ⟨hX, hr, hlk, hK, hE⟩ := id C0
  have hx := hX.1
  have hb := hX.2.1
  have hown := hX.2.2.2.1
  have hts := hX.2.2.2.2
  intro v1 v2 H locs ls hq hH hl
  unfold v_X3_stuckKeys_20 at hq
  refine lv_iinc (v := (v2 + (1 : Int32))) (lv' := [(2, .int (v2 + (1 : Int32))), (0, .ref (b + k)), (1, .int v1)]) hx hb dX3_stuckKeys_20 hl (k := 2) rfl rfl (by decide) rfl (fun ls hl => ?_)
  refine lv_goto (tgt := 4) hx hb dX3_stuckKeys_23 (by decide) ?_
  exact hK4 v1 (v2 + (1 : Int32)) _ _ _ hq hH (lv_sub hl [1, 2, 0] rfl)
set_option maxRecDepth 100000 in
set_option maxHeartbeats 4000000 in
theorem s_X3_stuckKeys_4 {k : Nat} {I : wI} {Q : Int32 → Prop} (hs : wSh k = (0, 3)) (C0 : wCx p m c s args meth cX3_stuckKeys 3 RX3 (some .int) D cs ad b) : ∀ (f : Nat) (v1 : Int32) (v2 : Int32) (H : Heap) (locs : List Loc) (ls : Array Slot), v_X3_stuckKeys_4 k I Q f v1 v2 → wH D cs b G I s H locs → lv_has ls 3 [(0, .ref (b + k)), (1, .int v1), (2, .int v2)] → W p l e rm_X3_stuckKeys s m args below meth c H locs 0 0 (MQ below (va_Qi (fun r I' => I' = I ∧ Q r) (wPo D cs b G) (fun q => b ≤ q)) args s 0 0 (fun q => b ≤ q)) (F0 m 4 ls []) := by
  obtain ⟨hX, hr, hlk, hK, hE⟩ := id C0
  have hx := hX.1
  have hb := hX.2.1
  have hown := hX.2.2.2.1
  have hts := hX.2.2.2.2
  intro f
  induction f with
  | zero =>
    intro v1 v2 H locs ls hq
    exact hq.elim
  | succ f hK4 =>
    intro v1 v2 H locs ls hq hH hl
    have hq : g_X3_stuckKeys_4 k I Q (v_X3_stuckKeys_4 k I Q f) v1 v2 := hq
    unfold g_X3_stuckKeys_4 at hq
    refine lv_iload_n hx hb dX3_stuckKeys_4 rfl (lv_at hl 2 rfl) ?_
    refine lv_iconst (v := 5) hx hb dX3_stuckKeys_5 (by decide) ?_
    refine lv_icmp_ge (tgt := 26) hx hb dX3_stuckKeys_6 (by decide) (fun hc => ?_) (fun hc => ?_)
    · have hq := hq.1 hc
      refine lv_iload_n hx hb dX3_stuckKeys_26 rfl (lv_at hl 1 rfl) ?_
      exact w_eI hX hr hlk hH ⟨rfl, hq⟩ dX3_stuckKeys_27
    · have hq := hq.2 hc
      refine lv_aload_n hx hb dX3_stuckKeys_9 rfl (lv_at hl 0 rfl) ?_
      refine lv_iload_n hx hb dX3_stuckKeys_10 rfl (lv_at hl 2 rfl) ?_
      obtain ⟨hp, hq⟩ := hq
      refine w_cIp hH (w_rV (As := [.int v2]) (rest := []) hX hK hE hH (c_X3_allows hs _ _ hp) ck3 hs q2_148 q2_149 q2_150 q1_2 q2_151 hd_X3_allows ⟨Nat.le_of_ble_eq_true rfl, Nat.le_of_ble_eq_true rfl⟩ ⟨rfl, rfl⟩ rfl hl.1 rfl (Nat.le_of_ble_eq_true rfl) dX3_stuckKeys_11 ⟨Nat.zero_le _, Nat.zero_le _⟩) (fun r1  H locs hpo hH => ?_)
      have hq := hq r1  hpo
      refine lv_if_ne (tgt := 20) hx hb dX3_stuckKeys_14 (by decide) (fun hc => ?_) (fun hc => ?_)
      · have hq := hq.1 hc
        exact s_X3_stuckKeys_20 hs C0 hK4 v1 v2 _ _ _ hq hH (lv_sub hl [0, 1, 2] rfl)
      · have hq := hq.2 hc
        refine lv_iinc (v := (v1 + (1 : Int32))) (lv' := [(1, .int (v1 + (1 : Int32))), (0, .ref (b + k)), (2, .int v2)]) hx hb dX3_stuckKeys_17 hl (k := 1) rfl rfl (by decide) rfl (fun ls hl => ?_)
        exact s_X3_stuckKeys_20 hs C0 hK4 (v1 + (1 : Int32)) v2 _ _ _ hq hH (lv_sub hl [1, 0, 2] rfl)
set_option maxRecDepth 100000 in
set_option maxHeartbeats 4000000 in
theorem c_X3_stuckKeys {l : Launch} {D : va_G} {cs : wC4} {ad : Nat → Nat} {b : Nat} {G : wG} {k : Nat} (hs : wSh k = (0, 3))  (I : wI) (hp : pre_X3_stuckKeys k I) : Met l yX3_stuckKeys (ws_ yX3_stuckKeys cX3_stuckKeys 3 (some .int)) rm_X3_stuckKeys (va_Pc [.ref (b + k)] (wPr D cs ad b G I)) (va_Qi (fun r I' => I' = I ∧ post_X3_stuckKeys k I r) (wPo D cs b G) (fun q => b ≤ q)) 0 0 (fun q => b ≤ q) := by
  have hq := vc_X3_stuckKeys k I hp
  refine w_met (by decide) (Nat.le_of_ble_eq_true rfl) ?_
  intro p e s m below meth c hX hr hlk hK hE hH ls hl
  have C0 : wCx p m c s _ meth cX3_stuckKeys 3 RX3 (some .int) D cs ad b := ⟨hX, hr, hlk, hK, hE⟩
  have hX : CallFix p m c cX3_stuckKeys 3 s _ lw_all RX3 := hX
  have hx := hX.1
  have hb := hX.2.1
  have hown := hX.2.2.2.1
  have hts := hX.2.2.2.2
  have hl : lv_has ls 3 [(0, .ref (b + k))] := hl
  unfold v_X3_stuckKeys at hq
  refine lv_iconst (v := 0) hx hb dX3_stuckKeys_0 (by decide) ?_
  refine lv_istore_n (lv' := [(1, .int (0 : Int32)), (0, .ref (b + k))]) hx hb dX3_stuckKeys_1 rfl hl (by decide) rfl (fun ls hl => ?_)
  refine lv_iconst (v := 0) hx hb dX3_stuckKeys_2 (by decide) ?_
  refine lv_istore_n (lv' := [(2, .int (0 : Int32)), (1, .int (0 : Int32)), (0, .ref (b + k))]) hx hb dX3_stuckKeys_3 rfl hl (by decide) rfl (fun ls hl => ?_)
  obtain ⟨f, hq⟩ := hq
  exact s_X3_stuckKeys_4 hs C0  f (0 : Int32) (0 : Int32) _ _ _ hq hH (lv_sub hl [2, 1, 0] rfl)
abbrev rm_X5_stick : Room := { frames := 9, cells := 0, slots := 0, locals := 140 }
theorem hd_X5_stick : yX5_stick.cls = RX5 ∧ yX5_stick.cls ≠ "java/lang/invoke/MethodHandle" ∧ yX5_stick.cls ≠ "java/lang/invoke/VarHandle" ∧ (parseMethodDescriptor yX5_stick.desc).map (fun d => d.parameters.length) = some 1 := by decide +kernel
set_option maxRecDepth 100000 in
set_option maxHeartbeats 4000000 in
theorem c_X5_stick {l : Launch} {D : va_G} {cs : wC4} {ad : Nat → Nat} {b : Nat} {G : wG} (x1 : Int32) (I : wI) (hp : pre_X5_stick x1 I) : Met l yX5_stick (ws_ yX5_stick cX5_stick 2 (some .int)) rm_X5_stick (va_Pc [.ref (b + 0), .int x1] (wPr D cs ad b G I)) (va_Qi (fun r I' => post_X5_stick x1 I r I') (wPo D cs b G) (fun q => b ≤ q)) 0 0 (fun q => b ≤ q) := by
  have hq := vc_X5_stick x1 I hp
  refine w_met (by decide) (Nat.le_of_ble_eq_true rfl) ?_
  intro p e s m below meth c hX hr hlk hK hE hH ls hl
  have C0 : wCx p m c s _ meth cX5_stick 2 RX5 (some .int) D cs ad b := ⟨hX, hr, hlk, hK, hE⟩
  have hX : CallFix p m c cX5_stick 2 s _ lw_all RX5 := hX
  have hx := hX.1
  have hb := hX.2.1
  have hown := hX.2.2.2.1
  have hts := hX.2.2.2.2
  have hl : lv_has ls 2 [(0, .ref (b + 0)), (1, .int x1)] := hl
  unfold v_X5_stick at hq
  refine lv_iload_n hx hb dX5_stick_0 rfl (lv_at hl 1 rfl) ?_
  obtain ⟨hp, hq⟩ := hq
  refine w_cVp hH (w_rS (As := [.int x1]) (rest := []) hX hK hE hH (c_X5_requirePosition  _ _ hp) q2_234 q2_235 q1_1 q2_236 hd_X5_requirePosition.2 ⟨Nat.le_of_ble_eq_true rfl, Nat.le_of_ble_eq_true rfl⟩ ⟨rfl, rfl⟩ rfl hl.1 rfl (Nat.le_of_ble_eq_true rfl) dX5_stick_1 ⟨Nat.zero_le _, Nat.zero_le _⟩) (fun   H locs hpo hH => ?_)
  have hq := hq   hpo
  refine lv_aload_n hx hb dX5_stick_4 rfl (lv_at hl 0 rfl) ?_
  obtain ⟨hp, hq⟩ := hq
  refine w_cV hH (w_rV (As := []) (rest := []) hX hK hE hH (c_X5_save   _ hp) ck5 sh0 q1_210 q1_212 qs0 q1_1 q1_213 hd_X5_save ⟨Nat.le_of_ble_eq_true rfl, Nat.le_of_ble_eq_true rfl⟩ ⟨rfl, rfl⟩ rfl hl.1 rfl (Nat.le_of_ble_eq_true rfl) dX5_stick_5 ⟨Nat.zero_le _, Nat.zero_le _⟩) (fun  I1 H locs hpo hH => ?_)
  have hq := hq  I1 hpo
  refine lv_aload_n hx hb dX5_stick_8 rfl (lv_at hl 0 rfl) ?_
  refine w_getr hX hK hH ck5 sh0 0 1 1 fr5_0 rfl q1_178 dX5_stick_9 ?_
  refine lv_aload_n hx hb dX5_stick_12 rfl (lv_at hl 0 rfl) ?_
  refine w_getr hX hK hH ck5 sh0 0 1 1 fr5_0 rfl q1_178 dX5_stick_13 ?_
  refine w_getiN hX hK hE hH ck3 (sf5_0 sh0) 4 fi3_4 qn1_72 dX5_stick_16 ?_
  refine lv_iconst (v := 1) hx hb dX5_stick_19 (by decide) ?_
  refine lv_iload_n hx hb dX5_stick_20 rfl (lv_at hl 1 rfl) ?_
  refine lv_ishl hx hb dX5_stick_21 ?_
  refine lv_ixor hx hb dX5_stick_22 ?_
  refine w_putiN hX hK hE hH ck3 (sf5_0 sh0) 4 fw3_4 qn1_72 dX5_stick_23 (fun I2 H locs hI hH => ?_)
  have hq := hq I2 hI
  refine lv_aload_n hx hb dX5_stick_26 rfl (lv_at hl 0 rfl) ?_
  refine w_getr hX hK hH ck5 sh0 0 1 1 fr5_0 rfl q1_178 dX5_stick_27 ?_
  obtain ⟨hp, hq⟩ := hq
  refine w_cIp hH (w_rV (As := []) (rest := []) hX hK hE hH (c_X3_stuckKeys (sf5_0 sh0)  _ hp) ck3 (sf5_0 sh0) q2_144 q2_145 q2_146 q1_2 q2_147 hd_X3_stuckKeys ⟨Nat.le_of_ble_eq_true rfl, Nat.le_of_ble_eq_true rfl⟩ ⟨rfl, rfl⟩ rfl hl.1 rfl (Nat.le_of_ble_eq_true rfl) dX5_stick_30 ⟨Nat.zero_le _, Nat.zero_le _⟩) (fun r3  H locs hpo hH => ?_)
  have hq := hq r3  hpo
  exact w_eI hX hr hlk hH hq dX5_stick_33
abbrev rm_X5_stickx : Room := { frames := 9, cells := 1, slots := 6, locals := 140 }

set_option maxRecDepth 100000 in
set_option maxHeartbeats 4000000 in
theorem c_X5_stickx {l : Launch} {D : va_G} {cs : wC4} {ad : Nat → Nat} {b : Nat} {G : wG} (hst : l.stackTraces = false) (x1 : Int32) (I : wI) (hp : pre_X5_stickx x1 I) : vx_Met l yX5_stick (ws_ yX5_stick cX5_stick 2 (some .int)) rm_X5_stickx (va_Pc [.ref (b + 0), .int x1] (wPr D cs ad b G I)) (va_Qi (fun (_ : Int32) (_ : wI) => False) (wPo D cs b G) (fun q => b ≤ q)) (wXC D cs b G (exc_X5_stick x1 I)) 1 6 (fun q => b ≤ q) := by
  have hq := vc_X5_stickx x1 I hp
  refine w_metx (by decide) (Nat.le_of_ble_eq_true rfl) ?_
  intro p e s m below meth c hX hr hlk hEx hK hE hH ls hl
  have C0 : wCx p m c s _ meth cX5_stick 2 RX5 (some .int) D cs ad b := ⟨hX, hr, hlk, hK, hE⟩
  have hX : CallFix p m c cX5_stick 2 s _ lw_all RX5 := hX
  have hx := hX.1
  have hb := hX.2.1
  have hown := hX.2.2.2.1
  have hts := hX.2.2.2.2
  have hl : lv_has ls 2 [(0, .ref (b + 0)), (1, .int x1)] := hl
  unfold v_X5_stickx at hq
  refine lv_iload_n hx hb dX5_stick_0 rfl (lv_at hl 1 rfl) ?_
  by_cases hok : ok_X5_requirePosition x1 I
  · have hq := hq.1 hok
    obtain ⟨hp, hq⟩ := hq
    refine w_cVp hH (w_rS (As := [.int x1]) (rest := []) hX hK hE hH (c_X5_requirePosition  _ _ hp) q2_234 q2_235 q1_1 q2_236 hd_X5_requirePosition.2 ⟨Nat.le_of_ble_eq_true rfl, Nat.le_of_ble_eq_true rfl⟩ ⟨rfl, rfl⟩ rfl hl.1 rfl (Nat.le_of_ble_eq_true rfl) dX5_stick_1 ⟨Nat.zero_le _, Nat.zero_le _⟩) (fun   H locs hpo hH => ?_)
    have hq := hq   hpo
    refine lv_aload_n hx hb dX5_stick_4 rfl (lv_at hl 0 rfl) ?_
    obtain ⟨hp, hq⟩ := hq
    refine w_cV hH (w_rV (As := []) (rest := []) hX hK hE hH (c_X5_save   _ hp) ck5 sh0 q1_210 q1_212 qs0 q1_1 q1_213 hd_X5_save ⟨Nat.le_of_ble_eq_true rfl, Nat.le_of_ble_eq_true rfl⟩ ⟨rfl, rfl⟩ rfl hl.1 rfl (Nat.le_of_ble_eq_true rfl) dX5_stick_5 ⟨Nat.zero_le _, Nat.zero_le _⟩) (fun  I1 H locs hpo hH => ?_)
    have hq := hq  I1 hpo
    refine lv_aload_n hx hb dX5_stick_8 rfl (lv_at hl 0 rfl) ?_
    refine w_getr hX hK hH ck5 sh0 0 1 1 fr5_0 rfl q1_178 dX5_stick_9 ?_
    refine lv_aload_n hx hb dX5_stick_12 rfl (lv_at hl 0 rfl) ?_
    refine w_getr hX hK hH ck5 sh0 0 1 1 fr5_0 rfl q1_178 dX5_stick_13 ?_
    refine w_getiN hX hK hE hH ck3 (sf5_0 sh0) 4 fi3_4 qn1_72 dX5_stick_16 ?_
    refine lv_iconst (v := 1) hx hb dX5_stick_19 (by decide) ?_
    refine lv_iload_n hx hb dX5_stick_20 rfl (lv_at hl 1 rfl) ?_
    refine lv_ishl hx hb dX5_stick_21 ?_
    refine lv_ixor hx hb dX5_stick_22 ?_
    refine w_putiN hX hK hE hH ck3 (sf5_0 sh0) 4 fw3_4 qn1_72 dX5_stick_23 (fun I2 H locs hI hH => ?_)
    have hq := hq I2 hI
    refine lv_aload_n hx hb dX5_stick_26 rfl (lv_at hl 0 rfl) ?_
    refine w_getr hX hK hH ck5 sh0 0 1 1 fr5_0 rfl q1_178 dX5_stick_27 ?_
    obtain ⟨hp, hq⟩ := hq
    refine w_cIp hH (w_rV (As := []) (rest := []) hX hK hE hH (c_X3_stuckKeys (sf5_0 sh0)  _ hp) ck3 (sf5_0 sh0) q2_144 q2_145 q2_146 q1_2 q2_147 hd_X3_stuckKeys ⟨Nat.le_of_ble_eq_true rfl, Nat.le_of_ble_eq_true rfl⟩ ⟨rfl, rfl⟩ rfl hl.1 rfl (Nat.le_of_ble_eq_true rfl) dX5_stick_30 ⟨Nat.zero_le _, Nat.zero_le _⟩) (fun r3  H locs hpo hH => ?_)
    have hq := hq r3  hpo
    exact hq.elim
  · have hq := hq.2 hok
    obtain ⟨hp, hq⟩ := hq
    exact w_xV hEx hlk hH (w_xrS (As := [.int x1]) (rest := []) hX hK hE hH (c_X5_requirePositionx hst  _ _ hp) q2_234 q2_235 q1_1 q2_236 hd_X5_requirePosition.2 ⟨Nat.le_of_ble_eq_true rfl, Nat.le_of_ble_eq_true rfl⟩ ⟨rfl, rfl⟩ rfl hl.1 rfl (Nat.le_of_ble_eq_true rfl) dX5_stick_1 ⟨Nat.le_of_ble_eq_true rfl, Nat.le_of_ble_eq_true rfl⟩) (fun E u h => by obtain ⟨h1, h2⟩ := h; subst h1; exact hq E h2)
abbrev rm_X0_notchSum : Room := { frames := 0, cells := 0, slots := 0, locals := 0 }
theorem hd_X0_notchSum : yX0_notchSum.cls = RX0 ∧ yX0_notchSum.cls ≠ "java/lang/invoke/MethodHandle" ∧ yX0_notchSum.cls ≠ "java/lang/invoke/VarHandle" ∧ (parseMethodDescriptor yX0_notchSum.desc).map (fun d => d.parameters.length) = some 0 := by decide +kernel
set_option maxRecDepth 100000 in
set_option maxHeartbeats 4000000 in
theorem s_X0_notchSum_4 {k : Nat} {I : wI} {Q : Int32 → Prop} (hs : wSh k = (0, 0)) (C0 : wCx p m c s args meth cX0_notchSum 3 RX0 (some .int) D cs ad b) : ∀ (f : Nat) (v1 : Int32) (v2 : Int32) (H : Heap) (locs : List Loc) (ls : Array Slot), v_X0_notchSum_4 k I Q f v1 v2 → wH D cs b G I s H locs → lv_has ls 3 [(0, .ref (b + k)), (1, .int v1), (2, .int v2)] → W p l e rm_X0_notchSum s m args below meth c H locs 0 0 (MQ below (va_Qi (fun r I' => I' = I ∧ Q r) (wPo D cs b G) (fun q => b ≤ q)) args s 0 0 (fun q => b ≤ q)) (F0 m 4 ls []) := by
  obtain ⟨hX, hr, hlk, hK, hE⟩ := id C0
  have hx := hX.1
  have hb := hX.2.1
  have hown := hX.2.2.2.1
  have hts := hX.2.2.2.2
  intro f
  induction f with
  | zero =>
    intro v1 v2 H locs ls hq
    exact hq.elim
  | succ f hK4 =>
    intro v1 v2 H locs ls hq hH hl
    have hq : g_X0_notchSum_4 k I Q (v_X0_notchSum_4 k I Q f) v1 v2 := hq
    unfold g_X0_notchSum_4 at hq
    refine lv_iload_n hx hb dX0_notchSum_4 rfl (lv_at hl 2 rfl) ?_
    refine lv_bipush (v := 6) hx hb dX0_notchSum_5 (by decide) ?_
    refine lv_icmp_ge (tgt := 25) hx hb dX0_notchSum_7 (by decide) (fun hc => ?_) (fun hc => ?_)
    · have hq := hq.1 hc
      refine lv_iload_n hx hb dX0_notchSum_25 rfl (lv_at hl 1 rfl) ?_
      exact w_eI hX hr hlk hH ⟨rfl, hq⟩ dX0_notchSum_26
    · have hq := hq.2 hc
      refine lv_iload_n hx hb dX0_notchSum_10 rfl (lv_at hl 1 rfl) ?_
      refine lv_aload_n hx hb dX0_notchSum_11 rfl (lv_at hl 0 rfl) ?_
      refine w_getr hX hK hH ck0 hs 1 2 (k + 2) fr0_1 rfl q1_39 dX0_notchSum_12 ?_
      refine lv_iload_n hx hb dX0_notchSum_15 rfl (lv_at hl 2 rfl) ?_
      obtain ⟨hc, hq⟩ := hq
      refine w_iald hX hK hH (sf0_1 hs) hc dX0_notchSum_16 ?_
      refine lv_iadd hx hb dX0_notchSum_17 ?_
      refine lv_istore_n (lv' := [(1, .int (v1 + (I (k + 2) (v2).toNatClampNeg))), (0, .ref (b + k)), (2, .int v2)]) hx hb dX0_notchSum_18 rfl hl (by decide) rfl (fun ls hl => ?_)
      refine lv_iinc (v := (v2 + (1 : Int32))) (lv' := [(2, .int (v2 + (1 : Int32))), (1, .int (v1 + (I (k + 2) (v2).toNatClampNeg))), (0, .ref (b + k))]) hx hb dX0_notchSum_19 hl (k := 2) rfl rfl (by decide) rfl (fun ls hl => ?_)
      refine lv_goto (tgt := 4) hx hb dX0_notchSum_22 (by decide) ?_
      exact hK4 (v1 + (I (k + 2) (v2).toNatClampNeg)) (v2 + (1 : Int32)) _ _ _ hq hH (lv_sub hl [2, 1, 0] rfl)
set_option maxRecDepth 100000 in
set_option maxHeartbeats 4000000 in
theorem c_X0_notchSum {l : Launch} {D : va_G} {cs : wC4} {ad : Nat → Nat} {b : Nat} {G : wG} {k : Nat} (hs : wSh k = (0, 0))  (I : wI) (hp : pre_X0_notchSum k I) : Met l yX0_notchSum (ws_ yX0_notchSum cX0_notchSum 3 (some .int)) rm_X0_notchSum (va_Pc [.ref (b + k)] (wPr D cs ad b G I)) (va_Qi (fun r I' => I' = I ∧ post_X0_notchSum k I r) (wPo D cs b G) (fun q => b ≤ q)) 0 0 (fun q => b ≤ q) := by
  have hq := vc_X0_notchSum k I hp
  refine w_met (by decide) (Nat.le_of_ble_eq_true rfl) ?_
  intro p e s m below meth c hX hr hlk hK hE hH ls hl
  have C0 : wCx p m c s _ meth cX0_notchSum 3 RX0 (some .int) D cs ad b := ⟨hX, hr, hlk, hK, hE⟩
  have hX : CallFix p m c cX0_notchSum 3 s _ lw_all RX0 := hX
  have hx := hX.1
  have hb := hX.2.1
  have hown := hX.2.2.2.1
  have hts := hX.2.2.2.2
  have hl : lv_has ls 3 [(0, .ref (b + k))] := hl
  unfold v_X0_notchSum at hq
  refine lv_iconst (v := 0) hx hb dX0_notchSum_0 (by decide) ?_
  refine lv_istore_n (lv' := [(1, .int (0 : Int32)), (0, .ref (b + k))]) hx hb dX0_notchSum_1 rfl hl (by decide) rfl (fun ls hl => ?_)
  refine lv_iconst (v := 0) hx hb dX0_notchSum_2 (by decide) ?_
  refine lv_istore_n (lv' := [(2, .int (0 : Int32)), (1, .int (0 : Int32)), (0, .ref (b + k))]) hx hb dX0_notchSum_3 rfl hl (by decide) rfl (fun ls hl => ?_)
  obtain ⟨f, hq⟩ := hq
  exact s_X0_notchSum_4 hs C0  f (0 : Int32) (0 : Int32) _ _ _ hq hH (lv_sub hl [2, 1, 0] rfl)
abbrev rm_X5_learn : Room := { frames := 4, cells := 0, slots := 0, locals := 85 }
theorem hd_X5_learn : yX5_learn.cls = RX5 ∧ yX5_learn.cls ≠ "java/lang/invoke/MethodHandle" ∧ yX5_learn.cls ≠ "java/lang/invoke/VarHandle" ∧ (parseMethodDescriptor yX5_learn.desc).map (fun d => d.parameters.length) = some 0 := by decide +kernel
set_option maxRecDepth 100000 in
set_option maxHeartbeats 4000000 in
theorem c_X5_learn {l : Launch} {D : va_G} {cs : wC4} {ad : Nat → Nat} {b : Nat} {G : wG}  (I : wI) (hp : pre_X5_learn  I) : Met l yX5_learn (ws_ yX5_learn cX5_learn 1 (some .int)) rm_X5_learn (va_Pc [.ref (b + 0)] (wPr D cs ad b G I)) (va_Qi (fun r I' => post_X5_learn  I r I') (wPo D cs b G) (fun q => b ≤ q)) 0 0 (fun q => b ≤ q) := by
  have hq := vc_X5_learn  I hp
  refine w_met (by decide) (Nat.le_of_ble_eq_true rfl) ?_
  intro p e s m below meth c hX hr hlk hK hE hH ls hl
  have C0 : wCx p m c s _ meth cX5_learn 1 RX5 (some .int) D cs ad b := ⟨hX, hr, hlk, hK, hE⟩
  have hX : CallFix p m c cX5_learn 1 s _ lw_all RX5 := hX
  have hx := hX.1
  have hb := hX.2.1
  have hown := hX.2.2.2.1
  have hts := hX.2.2.2.2
  have hl : lv_has ls 1 [(0, .ref (b + 0))] := hl
  unfold v_X5_learn at hq
  refine lv_aload_n hx hb dX5_learn_0 rfl (lv_at hl 0 rfl) ?_
  obtain ⟨hp, hq⟩ := hq
  refine w_cV hH (w_rV (As := []) (rest := []) hX hK hE hH (c_X5_save   _ hp) ck5 sh0 q1_210 q1_212 qs0 q1_1 q1_213 hd_X5_save ⟨Nat.le_of_ble_eq_true rfl, Nat.le_of_ble_eq_true rfl⟩ ⟨rfl, rfl⟩ rfl hl.1 rfl (Nat.le_of_ble_eq_true rfl) dX5_learn_1 ⟨Nat.zero_le _, Nat.zero_le _⟩) (fun  I1 H locs hpo hH => ?_)
  have hq := hq  I1 hpo
  refine lv_aload_n hx hb dX5_learn_4 rfl (lv_at hl 0 rfl) ?_
  refine w_getr hX hK hH ck5 sh0 0 1 1 fr5_0 rfl q1_178 dX5_learn_5 ?_
  refine w_getrN hX hK hE hH ck3 (sf5_0 sh0) 2 7 8 fr3_2 rfl qn1_67 dX5_learn_8 ?_
  refine lv_aload_n hx hb dX5_learn_11 rfl (lv_at hl 0 rfl) ?_
  refine w_getr hX hK hH ck5 sh0 0 1 1 fr5_0 rfl q1_178 dX5_learn_12 ?_
  refine w_getrN hX hK hE hH ck3 (sf5_0 sh0) 0 1 2 fr3_0 rfl qn1_61 dX5_learn_15 ?_
  obtain ⟨hp, hq⟩ := hq
  refine w_cV hH (w_rV (As := [.ref (b + 2)]) (rest := []) hX hK hE hH (c_X0_copyFrom (sf3_2 (sf5_0 sh0)) (sf3_0 (sf5_0 sh0))  _ hp) ck0 (sf3_2 (sf5_0 sh0)) q2_12 q1_227 q1_228 q1_3 q1_229 hd_X0_copyFrom ⟨Nat.le_of_ble_eq_true rfl, Nat.le_of_ble_eq_true rfl⟩ ⟨rfl, rfl⟩ rfl hl.1 rfl (Nat.le_of_ble_eq_true rfl) dX5_learn_18 ⟨Nat.zero_le _, Nat.zero_le _⟩) (fun  I2 H locs hpo hH => ?_)
  have hq := hq  I2 hpo
  refine lv_aload_n hx hb dX5_learn_21 rfl (lv_at hl 0 rfl) ?_
  refine w_getr hX hK hH ck5 sh0 0 1 1 fr5_0 rfl q1_178 dX5_learn_22 ?_
  refine lv_iconst (v := 1) hx hb dX5_learn_25 (by decide) ?_
  refine w_putzN (by decide) hX hK hE hH ck3 (sf5_0 sh0) 3 fw3_3 qn1_70 dX5_learn_26 (fun I3 H locs hI hH => ?_)
  have hq := hq I3 hI
  refine lv_aload_n hx hb dX5_learn_29 rfl (lv_at hl 0 rfl) ?_
  refine w_getr hX hK hH ck5 sh0 0 1 1 fr5_0 rfl q1_178 dX5_learn_30 ?_
  refine w_getrN hX hK hE hH ck3 (sf5_0 sh0) 0 1 2 fr3_0 rfl qn1_61 dX5_learn_33 ?_
  obtain ⟨hp, hq⟩ := hq
  refine w_cIp hH (w_rV (As := []) (rest := []) hX hK hE hH (c_X0_notchSum (sf3_0 (sf5_0 sh0))  _ hp) ck0 (sf3_0 (sf5_0 sh0)) q2_13 q2_14 q2_15 q1_3 q2_16 hd_X0_notchSum ⟨Nat.le_of_ble_eq_true rfl, Nat.le_of_ble_eq_true rfl⟩ ⟨rfl, rfl⟩ rfl hl.1 rfl (Nat.le_of_ble_eq_true rfl) dX5_learn_36 ⟨Nat.zero_le _, Nat.zero_le _⟩) (fun r4  H locs hpo hH => ?_)
  have hq := hq r4  hpo
  exact w_eI hX hr hlk hH hq dX5_learn_39
abbrev rm_X4_addSign : Room := { frames := 0, cells := 0, slots := 0, locals := 0 }
theorem hd_X4_addSign : yX4_addSign.cls = RX4 ∧ yX4_addSign.cls ≠ "java/lang/invoke/MethodHandle" ∧ yX4_addSign.cls ≠ "java/lang/invoke/VarHandle" ∧ (parseMethodDescriptor yX4_addSign.desc).map (fun d => d.parameters.length) = some 1 := by decide +kernel
set_option maxRecDepth 100000 in
set_option maxHeartbeats 4000000 in
theorem s_X4_addSign_36 {k : Nat} {x1 : Int32} {Q : wI → Prop} (hs : wSh k = (0, 4)) (C0 : wCx p m c s args meth cX4_addSign 2 RX4 none D cs ad b) : ∀  (I : wI) (H : Heap) (locs : List Loc) (ls : Array Slot), v_X4_addSign_36 k x1 Q  I → wH D cs b G I s H locs → lv_has ls 2 [] → W p l e rm_X4_addSign s m args below meth c H locs 0 0 (MQ below (va_Qv (Q) (wPo D cs b G) (fun q => b ≤ q)) args s 0 0 (fun q => b ≤ q)) (F0 m 36 ls []) := by
  obtain ⟨hX, hr, hlk, hK, hE⟩ := id C0
  have hx := hX.1
  have hb := hX.2.1
  have hown := hX.2.2.2.1
  have hts := hX.2.2.2.2
  intro  I H locs ls hq hH hl
  unfold v_X4_addSign_36 at hq
  exact w_eV hX hr hlk hH hq dX4_addSign_36
set_option maxRecDepth 100000 in
set_option maxHeartbeats 4000000 in
theorem c_X4_addSign {l : Launch} {D : va_G} {cs : wC4} {ad : Nat → Nat} {b : Nat} {G : wG} {k : Nat} (hs : wSh k = (0, 4)) (x1 : Int32) (I : wI) (hp : pre_X4_addSign k x1 I) : Met l yX4_addSign (ws_ yX4_addSign cX4_addSign 2 none) rm_X4_addSign (va_Pc [.ref (b + k), .int x1] (wPr D cs ad b G I)) (va_Qv (fun I' => post_X4_addSign k x1 I I') (wPo D cs b G) (fun q => b ≤ q)) 0 0 (fun q => b ≤ q) := by
  have hq := vc_X4_addSign k x1 I hp
  refine w_met (by decide) (Nat.le_of_ble_eq_true rfl) ?_
  intro p e s m below meth c hX hr hlk hK hE hH ls hl
  have C0 : wCx p m c s _ meth cX4_addSign 2 RX4 none D cs ad b := ⟨hX, hr, hlk, hK, hE⟩
  have hX : CallFix p m c cX4_addSign 2 s _ lw_all RX4 := hX
  have hx := hX.1
  have hb := hX.2.1
  have hown := hX.2.2.2.1
  have hts := hX.2.2.2.2
  have hl : lv_has ls 2 [(0, .ref (b + k)), (1, .int x1)] := hl
  unfold v_X4_addSign at hq
  refine lv_aload_n hx hb dX4_addSign_0 rfl (lv_at hl 0 rfl) ?_
  refine w_geti hX hK hH ck4 hs 1 fi4_1 q1_107 dX4_addSign_1 ?_
  refine lv_if_lt (tgt := 36) hx hb dX4_addSign_4 (by decide) (fun hc => ?_) (fun hc => ?_)
  · have hq := hq.1 hc
    exact s_X4_addSign_36 hs C0   _ _ _ _ hq hH (lv_sub hl [] rfl)
  · have hq := hq.2 hc
    refine lv_aload_n hx hb dX4_addSign_7 rfl (lv_at hl 0 rfl) ?_
    refine w_geti hX hK hH ck4 hs 1 fi4_1 q1_107 dX4_addSign_8 ?_
    refine lv_bipush (v := 60) hx hb dX4_addSign_11 (by decide) ?_
    refine lv_icmp_ge (tgt := 36) hx hb dX4_addSign_13 (by decide) (fun hc => ?_) (fun hc => ?_)
    · have hq := hq.1 hc
      exact s_X4_addSign_36 hs C0   _ _ _ _ hq hH (lv_sub hl [] rfl)
    · have hq := hq.2 hc
      refine lv_aload_n hx hb dX4_addSign_16 rfl (lv_at hl 0 rfl) ?_
      refine w_getr hX hK hH ck4 hs 0 1 (k + 1) fr4_0 rfl q1_106 dX4_addSign_17 ?_
      refine lv_aload_n hx hb dX4_addSign_20 rfl (lv_at hl 0 rfl) ?_
      refine w_geti hX hK hH ck4 hs 1 fi4_1 q1_107 dX4_addSign_21 ?_
      refine lv_iload_n hx hb dX4_addSign_24 rfl (lv_at hl 1 rfl) ?_
      obtain ⟨hc, hq⟩ := hq
      refine w_cast hX hK hH (sf4_0 hs) hc dX4_addSign_25 (fun I1 H locs hI hH => ?_)
      have hq := hq I1 hI
      refine lv_aload_n hx hb dX4_addSign_26 rfl (lv_at hl 0 rfl) ?_
      refine lv_dup hx hb dX4_addSign_27 rfl ?_
      refine w_geti hX hK hH ck4 hs 1 fi4_1 q1_107 dX4_addSign_28 ?_
      refine lv_iconst (v := 1) hx hb dX4_addSign_31 (by decide) ?_
      refine lv_iadd hx hb dX4_addSign_32 ?_
      refine w_puti hX hK hH ck4 hs 1 fw4_1 q1_107 dX4_addSign_33 (fun I2 H locs hI hH => ?_)
      have hq := hq I2 hI
      exact s_X4_addSign_36 hs C0   _ _ _ _ hq hH (lv_sub hl [] rfl)
abbrev rm_X5_append : Room := { frames := 8, cells := 0, slots := 0, locals := 120 }
theorem hd_X5_append : yX5_append.cls = RX5 ∧ yX5_append.cls ≠ "java/lang/invoke/MethodHandle" ∧ yX5_append.cls ≠ "java/lang/invoke/VarHandle" ∧ (parseMethodDescriptor yX5_append.desc).map (fun d => d.parameters.length) = some 1 := by decide +kernel
set_option maxRecDepth 100000 in
set_option maxHeartbeats 4000000 in
theorem s_X5_append_12 {x1 : Int32} {Q : Int32 → wI → Prop} (C0 : wCx p m c s args meth cX5_append 2 RX5 (some .int) D cs ad b) : ∀  (I : wI) (H : Heap) (locs : List Loc) (ls : Array Slot), v_X5_append_12 x1 Q  I → wH D cs b G I s H locs → lv_has ls 2 [] → W p l e rm_X5_append s m args below meth c H locs 0 0 (MQ below (va_Qi (Q) (wPo D cs b G) (fun q => b ≤ q)) args s 0 0 (fun q => b ≤ q)) (F0 m 12 ls []) := by
  obtain ⟨hX, hr, hlk, hK, hE⟩ := id C0
  have hx := hX.1
  have hb := hX.2.1
  have hown := hX.2.2.2.1
  have hts := hX.2.2.2.2
  intro  I H locs ls hq hH hl
  unfold v_X5_append_12 at hq
  exact hq.elim
set_option maxRecDepth 100000 in
set_option maxHeartbeats 4000000 in
theorem c_X5_append {l : Launch} {D : va_G} {cs : wC4} {ad : Nat → Nat} {b : Nat} {G : wG} (x1 : Int32) (I : wI) (hp : pre_X5_append x1 I) : Met l yX5_append (ws_ yX5_append cX5_append 2 (some .int)) rm_X5_append (va_Pc [.ref (b + 0), .int x1] (wPr D cs ad b G I)) (va_Qi (fun r I' => post_X5_append x1 I r I') (wPo D cs b G) (fun q => b ≤ q)) 0 0 (fun q => b ≤ q) := by
  have hq := vc_X5_append x1 I hp
  refine w_met (by decide) (Nat.le_of_ble_eq_true rfl) ?_
  intro p e s m below meth c hX hr hlk hK hE hH ls hl
  have C0 : wCx p m c s _ meth cX5_append 2 RX5 (some .int) D cs ad b := ⟨hX, hr, hlk, hK, hE⟩
  have hX : CallFix p m c cX5_append 2 s _ lw_all RX5 := hX
  have hx := hX.1
  have hb := hX.2.1
  have hown := hX.2.2.2.1
  have hts := hX.2.2.2.2
  have hl : lv_has ls 2 [(0, .ref (b + 0)), (1, .int x1)] := hl
  unfold v_X5_append at hq
  refine lv_iload_n hx hb dX5_append_0 rfl (lv_at hl 1 rfl) ?_
  refine lv_bipush (v := 33) hx hb dX5_append_1 (by decide) ?_
  refine lv_icmp_lt (tgt := 12) hx hb dX5_append_3 (by decide) (fun hc => ?_) (fun hc => ?_)
  · have hq := hq.1 hc
    exact s_X5_append_12  C0   _ _ _ _ hq hH (lv_sub hl [] rfl)
  · have hq := hq.2 hc
    refine lv_iload_n hx hb dX5_append_6 rfl (lv_at hl 1 rfl) ?_
    refine lv_bipush (v := 126) hx hb dX5_append_7 (by decide) ?_
    refine lv_icmp_le (tgt := 22) hx hb dX5_append_9 (by decide) (fun hc => ?_) (fun hc => ?_)
    · have hq := hq.1 hc
      refine lv_aload_n hx hb dX5_append_22 rfl (lv_at hl 0 rfl) ?_
      refine w_getr hX hK hH ck5 sh0 5 24 24 fr5_5 rfl q1_183 dX5_append_23 ?_
      refine w_getiN hX hK hE hH ck4 (sf5_5 sh0) 1 fi4_1 qn1_108 dX5_append_26 ?_
      refine lv_bipush (v := 60) hx hb dX5_append_29 (by decide) ?_
      refine lv_icmp_lt (tgt := 44) hx hb dX5_append_31 (by decide) (fun hc => ?_) (fun hc => ?_)
      · have hq := hq.1 hc
        refine lv_aload_n hx hb dX5_append_44 rfl (lv_at hl 0 rfl) ?_
        refine w_getr hX hK hH ck5 sh0 5 24 24 fr5_5 rfl q1_183 dX5_append_45 ?_
        refine lv_iload_n hx hb dX5_append_48 rfl (lv_at hl 1 rfl) ?_
        refine lv_i2c hx hb dX5_append_49 rfl ?_
        obtain ⟨hp, hq⟩ := hq
        refine w_cV hH (w_rV (As := [.int ((x1).toUInt32 % 65536).toInt32]) (rest := []) hX hK hE hH (c_X4_addSign (sf5_5 sh0) _ _ hp) ck4 (sf5_5 sh0) q4_0 q4_1 q4_2 q1_5 q4_3 hd_X4_addSign ⟨Nat.le_of_ble_eq_true rfl, Nat.le_of_ble_eq_true rfl⟩ ⟨rfl, rfl⟩ rfl hl.1 rfl (Nat.le_of_ble_eq_true rfl) dX5_append_50 ⟨Nat.zero_le _, Nat.zero_le _⟩) (fun  I1 H locs hpo hH => ?_)
        have hq := hq  I1 hpo
        refine lv_aload_n hx hb dX5_append_53 rfl (lv_at hl 0 rfl) ?_
        refine w_getr hX hK hH ck5 sh0 5 24 24 fr5_5 rfl q1_183 dX5_append_54 ?_
        refine w_getiN hX hK hE hH ck4 (sf5_5 sh0) 1 fi4_1 qn1_108 dX5_append_57 ?_
        exact w_eI hX hr hlk hH hq dX5_append_60
      · have hq := hq.2 hc
        exact hq.elim
    · have hq := hq.2 hc
      exact s_X5_append_12  C0   _ _ _ _ hq hH (lv_sub hl [] rfl)
abbrev rm_X5_appendx : Room := { frames := 8, cells := 1, slots := 6, locals := 120 }

set_option maxRecDepth 100000 in
set_option maxHeartbeats 4000000 in
theorem s_X5_appendx_12 {x1 : Int32} {X : String → wI → Prop} (hst : l.stackTraces = false) (hEx : ∀ x ∈ c.exceptionTable.toList, False) (C0 : wCx p m c s args meth cX5_append 2 RX5 (some .int) D cs ad b) : ∀  (I : wI) (H : Heap) (locs : List Loc) (ls : Array Slot), v_X5_appendx_12 x1 X  I → wH D cs b G I s H locs → lv_has ls 2 [] → W p l e rm_X5_appendx s m args below meth c H locs 0 0 (vx_MQ below (va_Qi (fun (_ : Int32) (_ : wI) => False) (wPo D cs b G) (fun q => b ≤ q)) (wXC D cs b G X) args s 1 6 (fun q => b ≤ q)) (F0 m 12 ls []) := by
  obtain ⟨hX, hr, hlk, hK, hE⟩ := id C0
  have hx := hX.1
  have hb := hX.2.1
  have hown := hX.2.2.2.1
  have hts := hX.2.2.2.2
  intro  I H locs ls hq hH hl
  unfold v_X5_appendx_12 at hq
  exact w_throw th_X5_66_159_70 hX hst hlk hEx hE hH hl.1 dX5_append_12 dX5_append_15 dX5_append_16 dX5_append_18 dX5_append_21 ⟨Nat.le_of_ble_eq_true rfl, Nat.le_of_ble_eq_true rfl, Nat.le_of_ble_eq_true rfl, Nat.le_of_ble_eq_true rfl⟩ hq
set_option maxRecDepth 100000 in
set_option maxHeartbeats 4000000 in
theorem c_X5_appendx {l : Launch} {D : va_G} {cs : wC4} {ad : Nat → Nat} {b : Nat} {G : wG} (hst : l.stackTraces = false) (x1 : Int32) (I : wI) (hp : pre_X5_appendx x1 I) : vx_Met l yX5_append (ws_ yX5_append cX5_append 2 (some .int)) rm_X5_appendx (va_Pc [.ref (b + 0), .int x1] (wPr D cs ad b G I)) (va_Qi (fun (_ : Int32) (_ : wI) => False) (wPo D cs b G) (fun q => b ≤ q)) (wXC D cs b G (exc_X5_append x1 I)) 1 6 (fun q => b ≤ q) := by
  have hq := vc_X5_appendx x1 I hp
  refine w_metx (by decide) (Nat.le_of_ble_eq_true rfl) ?_
  intro p e s m below meth c hX hr hlk hEx hK hE hH ls hl
  have C0 : wCx p m c s _ meth cX5_append 2 RX5 (some .int) D cs ad b := ⟨hX, hr, hlk, hK, hE⟩
  have hX : CallFix p m c cX5_append 2 s _ lw_all RX5 := hX
  have hx := hX.1
  have hb := hX.2.1
  have hown := hX.2.2.2.1
  have hts := hX.2.2.2.2
  have hl : lv_has ls 2 [(0, .ref (b + 0)), (1, .int x1)] := hl
  unfold v_X5_appendx at hq
  refine lv_iload_n hx hb dX5_append_0 rfl (lv_at hl 1 rfl) ?_
  refine lv_bipush (v := 33) hx hb dX5_append_1 (by decide) ?_
  refine lv_icmp_lt (tgt := 12) hx hb dX5_append_3 (by decide) (fun hc => ?_) (fun hc => ?_)
  · have hq := hq.1 hc
    exact s_X5_appendx_12 hst hEx C0   _ _ _ _ hq hH (lv_sub hl [] rfl)
  · have hq := hq.2 hc
    refine lv_iload_n hx hb dX5_append_6 rfl (lv_at hl 1 rfl) ?_
    refine lv_bipush (v := 126) hx hb dX5_append_7 (by decide) ?_
    refine lv_icmp_le (tgt := 22) hx hb dX5_append_9 (by decide) (fun hc => ?_) (fun hc => ?_)
    · have hq := hq.1 hc
      refine lv_aload_n hx hb dX5_append_22 rfl (lv_at hl 0 rfl) ?_
      refine w_getr hX hK hH ck5 sh0 5 24 24 fr5_5 rfl q1_183 dX5_append_23 ?_
      refine w_getiN hX hK hE hH ck4 (sf5_5 sh0) 1 fi4_1 qn1_108 dX5_append_26 ?_
      refine lv_bipush (v := 60) hx hb dX5_append_29 (by decide) ?_
      refine lv_icmp_lt (tgt := 44) hx hb dX5_append_31 (by decide) (fun hc => ?_) (fun hc => ?_)
      · have hq := hq.1 hc
        refine lv_aload_n hx hb dX5_append_44 rfl (lv_at hl 0 rfl) ?_
        refine w_getr hX hK hH ck5 sh0 5 24 24 fr5_5 rfl q1_183 dX5_append_45 ?_
        refine lv_iload_n hx hb dX5_append_48 rfl (lv_at hl 1 rfl) ?_
        refine lv_i2c hx hb dX5_append_49 rfl ?_
        obtain ⟨hp, hq⟩ := hq
        refine w_cV hH (w_rV (As := [.int ((x1).toUInt32 % 65536).toInt32]) (rest := []) hX hK hE hH (c_X4_addSign (sf5_5 sh0) _ _ hp) ck4 (sf5_5 sh0) q4_0 q4_1 q4_2 q1_5 q4_3 hd_X4_addSign ⟨Nat.le_of_ble_eq_true rfl, Nat.le_of_ble_eq_true rfl⟩ ⟨rfl, rfl⟩ rfl hl.1 rfl (Nat.le_of_ble_eq_true rfl) dX5_append_50 ⟨Nat.zero_le _, Nat.zero_le _⟩) (fun  I1 H locs hpo hH => ?_)
        have hq := hq  I1 hpo
        refine lv_aload_n hx hb dX5_append_53 rfl (lv_at hl 0 rfl) ?_
        refine w_getr hX hK hH ck5 sh0 5 24 24 fr5_5 rfl q1_183 dX5_append_54 ?_
        refine w_getiN hX hK hE hH ck4 (sf5_5 sh0) 1 fi4_1 qn1_108 dX5_append_57 ?_
        exact hq.elim
      · have hq := hq.2 hc
        exact w_throw th_X5_76_161_80 hX hst hlk hEx hE hH hl.1 dX5_append_34 dX5_append_37 dX5_append_38 dX5_append_40 dX5_append_43 ⟨Nat.le_of_ble_eq_true rfl, Nat.le_of_ble_eq_true rfl, Nat.le_of_ble_eq_true rfl, Nat.le_of_ble_eq_true rfl⟩ hq
    · have hq := hq.2 hc
      exact s_X5_appendx_12 hst hEx C0   _ _ _ _ hq hH (lv_sub hl [] rfl)
abbrev rm_X5_clearBuffer : Room := { frames := 0, cells := 0, slots := 0, locals := 0 }
theorem hd_X5_clearBuffer : yX5_clearBuffer.cls = RX5 ∧ yX5_clearBuffer.cls ≠ "java/lang/invoke/MethodHandle" ∧ yX5_clearBuffer.cls ≠ "java/lang/invoke/VarHandle" ∧ (parseMethodDescriptor yX5_clearBuffer.desc).map (fun d => d.parameters.length) = some 0 := by decide +kernel
set_option maxRecDepth 100000 in
set_option maxHeartbeats 4000000 in
theorem c_X5_clearBuffer {l : Launch} {D : va_G} {cs : wC4} {ad : Nat → Nat} {b : Nat} {G : wG}  (I : wI) (hp : pre_X5_clearBuffer  I) : Met l yX5_clearBuffer (ws_ yX5_clearBuffer cX5_clearBuffer 2 (some .int)) rm_X5_clearBuffer (va_Pc [.ref (b + 0)] (wPr D cs ad b G I)) (va_Qi (fun r I' => post_X5_clearBuffer  I r I') (wPo D cs b G) (fun q => b ≤ q)) 0 0 (fun q => b ≤ q) := by
  have hq := vc_X5_clearBuffer  I hp
  refine w_met (by decide) (Nat.le_of_ble_eq_true rfl) ?_
  intro p e s m below meth c hX hr hlk hK hE hH ls hl
  have C0 : wCx p m c s _ meth cX5_clearBuffer 2 RX5 (some .int) D cs ad b := ⟨hX, hr, hlk, hK, hE⟩
  have hX : CallFix p m c cX5_clearBuffer 2 s _ lw_all RX5 := hX
  have hx := hX.1
  have hb := hX.2.1
  have hown := hX.2.2.2.1
  have hts := hX.2.2.2.2
  have hl : lv_has ls 2 [(0, .ref (b + 0))] := hl
  unfold v_X5_clearBuffer at hq
  refine lv_aload_n hx hb dX5_clearBuffer_0 rfl (lv_at hl 0 rfl) ?_
  refine w_getr hX hK hH ck5 sh0 5 24 24 fr5_5 rfl q1_183 dX5_clearBuffer_1 ?_
  refine w_getiN hX hK hE hH ck4 (sf5_5 sh0) 1 fi4_1 qn1_108 dX5_clearBuffer_4 ?_
  refine lv_istore_n (lv' := [(1, .int (I 24 1)), (0, .ref (b + 0))]) hx hb dX5_clearBuffer_7 rfl hl (by decide) rfl (fun ls hl => ?_)
  refine lv_aload_n hx hb dX5_clearBuffer_8 rfl (lv_at hl 1 rfl) ?_
  refine w_getr hX hK hH ck5 sh0 5 24 24 fr5_5 rfl q1_183 dX5_clearBuffer_9 ?_
  refine lv_iconst (v := 0) hx hb dX5_clearBuffer_12 (by decide) ?_
  refine w_putiN hX hK hE hH ck4 (sf5_5 sh0) 1 fw4_1 qn1_108 dX5_clearBuffer_13 (fun I1 H locs hI hH => ?_)
  have hq := hq I1 hI
  refine lv_iload_n hx hb dX5_clearBuffer_16 rfl (lv_at hl 0 rfl) ?_
  exact w_eI hX hr hlk hH hq dX5_clearBuffer_17
abbrev rm_X5_firstError : Room := { frames := 6, cells := 0, slots := 0, locals := 130 }
theorem hd_X5_firstError : yX5_firstError.cls = RX5 ∧ yX5_firstError.cls ≠ "java/lang/invoke/MethodHandle" ∧ yX5_firstError.cls ≠ "java/lang/invoke/VarHandle" ∧ (parseMethodDescriptor yX5_firstError.desc).map (fun d => d.parameters.length) = some 0 := by decide +kernel
set_option maxRecDepth 100000 in
set_option maxHeartbeats 4000000 in
theorem c_X5_firstError {l : Launch} {D : va_G} {cs : wC4} {ad : Nat → Nat} {b : Nat} {G : wG}  (I : wI) (hp : pre_X5_firstError  I) : Met l yX5_firstError (ws_ yX5_firstError cX5_firstError 1 (some .int)) rm_X5_firstError (va_Pc [.ref (b + 0)] (wPr D cs ad b G I)) (va_Qi (fun r I' => post_X5_firstError  I r I') (wPo D cs b G) (fun q => b ≤ q)) 0 0 (fun q => b ≤ q) := by
  have hq := vc_X5_firstError  I hp
  refine w_met (by decide) (Nat.le_of_ble_eq_true rfl) ?_
  intro p e s m below meth c hX hr hlk hK hE hH ls hl
  have C0 : wCx p m c s _ meth cX5_firstError 1 RX5 (some .int) D cs ad b := ⟨hX, hr, hlk, hK, hE⟩
  have hX : CallFix p m c cX5_firstError 1 s _ lw_all RX5 := hX
  have hx := hX.1
  have hb := hX.2.1
  have hown := hX.2.2.2.1
  have hts := hX.2.2.2.2
  have hl : lv_has ls 1 [(0, .ref (b + 0))] := hl
  unfold v_X5_firstError at hq
  refine lv_aload_n hx hb dX5_firstError_0 rfl (lv_at hl 0 rfl) ?_
  refine w_getr hX hK hH ck5 sh0 5 24 24 fr5_5 rfl q1_183 dX5_firstError_1 ?_
  obtain ⟨hp, hq⟩ := hq
  refine w_cI hH (w_rV (As := []) (rest := []) hX hK hE hH (c_X4_read (sf5_5 sh0)  _ hp) ck4 (sf5_5 sh0) q2_25 q2_26 q2_27 q1_5 q2_28 hd_X4_read ⟨Nat.le_of_ble_eq_true rfl, Nat.le_of_ble_eq_true rfl⟩ ⟨rfl, rfl⟩ rfl hl.1 rfl (Nat.le_of_ble_eq_true rfl) dX5_firstError_4 ⟨Nat.zero_le _, Nat.zero_le _⟩) (fun r1 I2 H locs hpo hH => ?_)
  have hq := hq r1 I2 hpo
  exact w_eI hX hr hlk hH hq dX5_firstError_7
abbrev rm_X5_keep : Room := { frames := 2, cells := 0, slots := 0, locals := 44 }
theorem hd_X5_keep : yX5_keep.cls = RX5 ∧ yX5_keep.cls ≠ "java/lang/invoke/MethodHandle" ∧ yX5_keep.cls ≠ "java/lang/invoke/VarHandle" ∧ (parseMethodDescriptor yX5_keep.desc).map (fun d => d.parameters.length) = some 0 := by decide +kernel
set_option maxRecDepth 100000 in
set_option maxHeartbeats 4000000 in
theorem c_X5_keep {l : Launch} {D : va_G} {cs : wC4} {ad : Nat → Nat} {b : Nat} {G : wG}  (I : wI) (hp : pre_X5_keep  I) : Met l yX5_keep (ws_ yX5_keep cX5_keep 1 (some .int)) rm_X5_keep (va_Pc [.ref (b + 0)] (wPr D cs ad b G I)) (va_Qi (fun r I' => post_X5_keep  I r I') (wPo D cs b G) (fun q => b ≤ q)) 0 0 (fun q => b ≤ q) := by
  have hq := vc_X5_keep  I hp
  refine w_met (by decide) (Nat.le_of_ble_eq_true rfl) ?_
  intro p e s m below meth c hX hr hlk hK hE hH ls hl
  have C0 : wCx p m c s _ meth cX5_keep 1 RX5 (some .int) D cs ad b := ⟨hX, hr, hlk, hK, hE⟩
  have hX : CallFix p m c cX5_keep 1 s _ lw_all RX5 := hX
  have hx := hX.1
  have hb := hX.2.1
  have hown := hX.2.2.2.1
  have hts := hX.2.2.2.2
  have hl : lv_has ls 1 [(0, .ref (b + 0))] := hl
  unfold v_X5_keep at hq
  refine lv_aload_n hx hb dX5_keep_0 rfl (lv_at hl 0 rfl) ?_
  refine w_getr hX hK hH ck5 sh0 1 12 12 fr5_1 rfl q1_179 dX5_keep_1 ?_
  refine lv_aload_n hx hb dX5_keep_4 rfl (lv_at hl 0 rfl) ?_
  refine w_getr hX hK hH ck5 sh0 0 1 1 fr5_0 rfl q1_178 dX5_keep_5 ?_
  obtain ⟨hp, hq⟩ := hq
  refine w_cV hH (w_rV (As := [.ref (b + 1)]) (rest := []) hX hK hE hH (c_X3_copyFrom (sf5_1 sh0) (sf5_0 sh0)  _ hp) ck3 (sf5_1 sh0) q1_222 q1_223 q1_224 q1_2 q1_225 hd_X3_copyFrom ⟨Nat.le_of_ble_eq_true rfl, Nat.le_of_ble_eq_true rfl⟩ ⟨rfl, rfl⟩ rfl hl.1 rfl (Nat.le_of_ble_eq_true rfl) dX5_keep_8 ⟨Nat.zero_le _, Nat.zero_le _⟩) (fun  I1 H locs hpo hH => ?_)
  have hq := hq  I1 hpo
  refine lv_aload_n hx hb dX5_keep_11 rfl (lv_at hl 0 rfl) ?_
  refine lv_iconst (v := 1) hx hb dX5_keep_12 (by decide) ?_
  refine w_putz (by decide) hX hK hH ck5 sh0 2 fw5_2 q1_180 dX5_keep_13 (fun I2 H locs hI hH => ?_)
  have hq := hq I2 hI
  refine lv_aload_n hx hb dX5_keep_16 rfl (lv_at hl 0 rfl) ?_
  refine w_getr hX hK hH ck5 sh0 0 1 1 fr5_0 rfl q1_178 dX5_keep_17 ?_
  refine w_getiN hX hK hE hH ck3 (sf5_0 sh0) 6 fi3_6 qn1_75 dX5_keep_20 ?_
  exact w_eI hX hr hlk hH hq dX5_keep_23
abbrev rm_X5_goBack : Room := { frames := 8, cells := 0, slots := 0, locals := 120 }
theorem hd_X5_goBack : yX5_goBack.cls = RX5 ∧ yX5_goBack.cls ≠ "java/lang/invoke/MethodHandle" ∧ yX5_goBack.cls ≠ "java/lang/invoke/VarHandle" ∧ (parseMethodDescriptor yX5_goBack.desc).map (fun d => d.parameters.length) = some 0 := by decide +kernel
set_option maxRecDepth 100000 in
set_option maxHeartbeats 4000000 in
theorem c_X5_goBack {l : Launch} {D : va_G} {cs : wC4} {ad : Nat → Nat} {b : Nat} {G : wG}  (I : wI) (hp : pre_X5_goBack  I) : Met l yX5_goBack (ws_ yX5_goBack cX5_goBack 1 (some .int)) rm_X5_goBack (va_Pc [.ref (b + 0)] (wPr D cs ad b G I)) (va_Qi (fun r I' => post_X5_goBack  I r I') (wPo D cs b G) (fun q => b ≤ q)) 0 0 (fun q => b ≤ q) := by
  have hq := vc_X5_goBack  I hp
  refine w_met (by decide) (Nat.le_of_ble_eq_true rfl) ?_
  intro p e s m below meth c hX hr hlk hK hE hH ls hl
  have C0 : wCx p m c s _ meth cX5_goBack 1 RX5 (some .int) D cs ad b := ⟨hX, hr, hlk, hK, hE⟩
  have hX : CallFix p m c cX5_goBack 1 s _ lw_all RX5 := hX
  have hx := hX.1
  have hb := hX.2.1
  have hown := hX.2.2.2.1
  have hts := hX.2.2.2.2
  have hl : lv_has ls 1 [(0, .ref (b + 0))] := hl
  unfold v_X5_goBack at hq
  refine lv_aload_n hx hb dX5_goBack_0 rfl (lv_at hl 0 rfl) ?_
  refine w_geti hX hK hH ck5 sh0 2 fi5_2 q1_180 dX5_goBack_1 ?_
  refine lv_if_ne (tgt := 17) hx hb dX5_goBack_4 (by decide) (fun hc => ?_) (fun hc => ?_)
  · have hq := hq.1 hc
    refine lv_aload_n hx hb dX5_goBack_17 rfl (lv_at hl 0 rfl) ?_
    obtain ⟨hp, hq⟩ := hq
    refine w_cV hH (w_rV (As := []) (rest := []) hX hK hE hH (c_X5_save   _ hp) ck5 sh0 q1_210 q1_212 qs0 q1_1 q1_213 hd_X5_save ⟨Nat.le_of_ble_eq_true rfl, Nat.le_of_ble_eq_true rfl⟩ ⟨rfl, rfl⟩ rfl hl.1 rfl (Nat.le_of_ble_eq_true rfl) dX5_goBack_18 ⟨Nat.zero_le _, Nat.zero_le _⟩) (fun  I1 H locs hpo hH => ?_)
    have hq := hq  I1 hpo
    refine lv_aload_n hx hb dX5_goBack_21 rfl (lv_at hl 0 rfl) ?_
    refine w_getr hX hK hH ck5 sh0 0 1 1 fr5_0 rfl q1_178 dX5_goBack_22 ?_
    refine lv_aload_n hx hb dX5_goBack_25 rfl (lv_at hl 0 rfl) ?_
    refine w_getr hX hK hH ck5 sh0 1 12 12 fr5_1 rfl q1_179 dX5_goBack_26 ?_
    obtain ⟨hp, hq⟩ := hq
    refine w_cV hH (w_rV (As := [.ref (b + 12)]) (rest := []) hX hK hE hH (c_X3_copyFrom (sf5_0 sh0) (sf5_1 sh0)  _ hp) ck3 (sf5_0 sh0) q1_222 q1_223 q1_224 q1_2 q1_225 hd_X3_copyFrom ⟨Nat.le_of_ble_eq_true rfl, Nat.le_of_ble_eq_true rfl⟩ ⟨rfl, rfl⟩ rfl hl.1 rfl (Nat.le_of_ble_eq_true rfl) dX5_goBack_29 ⟨Nat.zero_le _, Nat.zero_le _⟩) (fun  I2 H locs hpo hH => ?_)
    have hq := hq  I2 hpo
    refine lv_aload_n hx hb dX5_goBack_32 rfl (lv_at hl 0 rfl) ?_
    refine w_getr hX hK hH ck5 sh0 0 1 1 fr5_0 rfl q1_178 dX5_goBack_33 ?_
    refine w_getiN hX hK hE hH ck3 (sf5_0 sh0) 6 fi3_6 qn1_75 dX5_goBack_36 ?_
    exact w_eI hX hr hlk hH hq dX5_goBack_39
  · have hq := hq.2 hc
    exact hq.elim
abbrev rm_X5_goBackx : Room := { frames := 8, cells := 1, slots := 6, locals := 120 }

set_option maxRecDepth 100000 in
set_option maxHeartbeats 4000000 in
theorem c_X5_goBackx {l : Launch} {D : va_G} {cs : wC4} {ad : Nat → Nat} {b : Nat} {G : wG} (hst : l.stackTraces = false)  (I : wI) (hp : pre_X5_goBackx  I) : vx_Met l yX5_goBack (ws_ yX5_goBack cX5_goBack 1 (some .int)) rm_X5_goBackx (va_Pc [.ref (b + 0)] (wPr D cs ad b G I)) (va_Qi (fun (_ : Int32) (_ : wI) => False) (wPo D cs b G) (fun q => b ≤ q)) (wXC D cs b G (exc_X5_goBack  I)) 1 6 (fun q => b ≤ q) := by
  have hq := vc_X5_goBackx  I hp
  refine w_metx (by decide) (Nat.le_of_ble_eq_true rfl) ?_
  intro p e s m below meth c hX hr hlk hEx hK hE hH ls hl
  have C0 : wCx p m c s _ meth cX5_goBack 1 RX5 (some .int) D cs ad b := ⟨hX, hr, hlk, hK, hE⟩
  have hX : CallFix p m c cX5_goBack 1 s _ lw_all RX5 := hX
  have hx := hX.1
  have hb := hX.2.1
  have hown := hX.2.2.2.1
  have hts := hX.2.2.2.2
  have hl : lv_has ls 1 [(0, .ref (b + 0))] := hl
  unfold v_X5_goBackx at hq
  refine lv_aload_n hx hb dX5_goBack_0 rfl (lv_at hl 0 rfl) ?_
  refine w_geti hX hK hH ck5 sh0 2 fi5_2 q1_180 dX5_goBack_1 ?_
  refine lv_if_ne (tgt := 17) hx hb dX5_goBack_4 (by decide) (fun hc => ?_) (fun hc => ?_)
  · have hq := hq.1 hc
    refine lv_aload_n hx hb dX5_goBack_17 rfl (lv_at hl 0 rfl) ?_
    obtain ⟨hp, hq⟩ := hq
    refine w_cV hH (w_rV (As := []) (rest := []) hX hK hE hH (c_X5_save   _ hp) ck5 sh0 q1_210 q1_212 qs0 q1_1 q1_213 hd_X5_save ⟨Nat.le_of_ble_eq_true rfl, Nat.le_of_ble_eq_true rfl⟩ ⟨rfl, rfl⟩ rfl hl.1 rfl (Nat.le_of_ble_eq_true rfl) dX5_goBack_18 ⟨Nat.zero_le _, Nat.zero_le _⟩) (fun  I1 H locs hpo hH => ?_)
    have hq := hq  I1 hpo
    refine lv_aload_n hx hb dX5_goBack_21 rfl (lv_at hl 0 rfl) ?_
    refine w_getr hX hK hH ck5 sh0 0 1 1 fr5_0 rfl q1_178 dX5_goBack_22 ?_
    refine lv_aload_n hx hb dX5_goBack_25 rfl (lv_at hl 0 rfl) ?_
    refine w_getr hX hK hH ck5 sh0 1 12 12 fr5_1 rfl q1_179 dX5_goBack_26 ?_
    obtain ⟨hp, hq⟩ := hq
    refine w_cV hH (w_rV (As := [.ref (b + 12)]) (rest := []) hX hK hE hH (c_X3_copyFrom (sf5_0 sh0) (sf5_1 sh0)  _ hp) ck3 (sf5_0 sh0) q1_222 q1_223 q1_224 q1_2 q1_225 hd_X3_copyFrom ⟨Nat.le_of_ble_eq_true rfl, Nat.le_of_ble_eq_true rfl⟩ ⟨rfl, rfl⟩ rfl hl.1 rfl (Nat.le_of_ble_eq_true rfl) dX5_goBack_29 ⟨Nat.zero_le _, Nat.zero_le _⟩) (fun  I2 H locs hpo hH => ?_)
    have hq := hq  I2 hpo
    refine lv_aload_n hx hb dX5_goBack_32 rfl (lv_at hl 0 rfl) ?_
    refine w_getr hX hK hH ck5 sh0 0 1 1 fr5_0 rfl q1_178 dX5_goBack_33 ?_
    refine w_getiN hX hK hE hH ck3 (sf5_0 sh0) 6 fi3_6 qn1_75 dX5_goBack_36 ?_
    exact hq.elim
  · have hq := hq.2 hc
    exact w_throw th_X5_76_173_80 hX hst hlk hEx hE hH hl.1 dX5_goBack_7 dX5_goBack_10 dX5_goBack_11 dX5_goBack_13 dX5_goBack_16 ⟨Nat.le_of_ble_eq_true rfl, Nat.le_of_ble_eq_true rfl, Nat.le_of_ble_eq_true rfl, Nat.le_of_ble_eq_true rfl⟩ hq
abbrev rm_X5_undo : Room := { frames := 8, cells := 0, slots := 0, locals := 120 }
theorem hd_X5_undo : yX5_undo.cls = RX5 ∧ yX5_undo.cls ≠ "java/lang/invoke/MethodHandle" ∧ yX5_undo.cls ≠ "java/lang/invoke/VarHandle" ∧ (parseMethodDescriptor yX5_undo.desc).map (fun d => d.parameters.length) = some 0 := by decide +kernel
set_option maxRecDepth 100000 in
set_option maxHeartbeats 4000000 in
theorem s_X5_undo_58 {Q : Int32 → wI → Prop} (C0 : wCx p m c s args meth cX5_undo 2 RX5 (some .int) D cs ad b) : ∀  (I : wI) (H : Heap) (locs : List Loc) (ls : Array Slot), v_X5_undo_58 Q  I → wH D cs b G I s H locs → lv_has ls 2 [(0, .ref (b + 0))] → W p l e rm_X5_undo s m args below meth c H locs 0 0 (MQ below (va_Qi (Q) (wPo D cs b G) (fun q => b ≤ q)) args s 0 0 (fun q => b ≤ q)) (F0 m 58 ls []) := by
  obtain ⟨hX, hr, hlk, hK, hE⟩ := id C0
  have hx := hX.1
  have hb := hX.2.1
  have hown := hX.2.2.2.1
  have hts := hX.2.2.2.2
  intro  I H locs ls hq hH hl
  unfold v_X5_undo_58 at hq
  refine lv_aload_n hx hb dX5_undo_58 rfl (lv_at hl 0 rfl) ?_
  refine w_geti hX hK hH ck5 sh0 4 fi5_4 q1_182 dX5_undo_59 ?_
  exact w_eI hX hr hlk hH hq dX5_undo_62
set_option maxRecDepth 100000 in
set_option maxHeartbeats 4000000 in
theorem s_X5_undo_16 {Q : Int32 → wI → Prop} (C0 : wCx p m c s args meth cX5_undo 2 RX5 (some .int) D cs ad b) : ∀  (I : wI) (H : Heap) (locs : List Loc) (ls : Array Slot), v_X5_undo_16 Q  I → wH D cs b G I s H locs → lv_has ls 2 [] → W p l e rm_X5_undo s m args below meth c H locs 0 0 (MQ below (va_Qi (Q) (wPo D cs b G) (fun q => b ≤ q)) args s 0 0 (fun q => b ≤ q)) (F0 m 16 ls []) := by
  obtain ⟨hX, hr, hlk, hK, hE⟩ := id C0
  have hx := hX.1
  have hb := hX.2.1
  have hown := hX.2.2.2.1
  have hts := hX.2.2.2.2
  intro  I H locs ls hq hH hl
  unfold v_X5_undo_16 at hq
  exact hq.elim
set_option maxRecDepth 100000 in
set_option maxHeartbeats 4000000 in
theorem c_X5_undo {l : Launch} {D : va_G} {cs : wC4} {ad : Nat → Nat} {b : Nat} {G : wG}  (I : wI) (hp : pre_X5_undo  I) : Met l yX5_undo (ws_ yX5_undo cX5_undo 2 (some .int)) rm_X5_undo (va_Pc [.ref (b + 0)] (wPr D cs ad b G I)) (va_Qi (fun r I' => post_X5_undo  I r I') (wPo D cs b G) (fun q => b ≤ q)) 0 0 (fun q => b ≤ q) := by
  have hq := vc_X5_undo  I hp
  refine w_met (by decide) (Nat.le_of_ble_eq_true rfl) ?_
  intro p e s m below meth c hX hr hlk hK hE hH ls hl
  have C0 : wCx p m c s _ meth cX5_undo 2 RX5 (some .int) D cs ad b := ⟨hX, hr, hlk, hK, hE⟩
  have hX : CallFix p m c cX5_undo 2 s _ lw_all RX5 := hX
  have hx := hX.1
  have hb := hX.2.1
  have hown := hX.2.2.2.1
  have hts := hX.2.2.2.2
  have hl : lv_has ls 2 [(0, .ref (b + 0))] := hl
  unfold v_X5_undo at hq
  refine lv_aload_n hx hb dX5_undo_0 rfl (lv_at hl 0 rfl) ?_
  refine w_geti hX hK hH ck5 sh0 4 fi5_4 q1_182 dX5_undo_1 ?_
  refine lv_if_le (tgt := 16) hx hb dX5_undo_4 (by decide) (fun hc => ?_) (fun hc => ?_)
  · have hq := hq.1 hc
    exact s_X5_undo_16  C0   _ _ _ _ hq hH (lv_sub hl [] rfl)
  · have hq := hq.2 hc
    refine lv_aload_n hx hb dX5_undo_7 rfl (lv_at hl 0 rfl) ?_
    refine w_geti hX hK hH ck5 sh0 4 fi5_4 q1_182 dX5_undo_8 ?_
    refine lv_bipush (v := 6) hx hb dX5_undo_11 (by decide) ?_
    refine lv_icmp_le (tgt := 26) hx hb dX5_undo_13 (by decide) (fun hc => ?_) (fun hc => ?_)
    · have hq := hq.1 hc
      refine lv_aload_n hx hb dX5_undo_26 rfl (lv_at hl 0 rfl) ?_
      refine lv_dup hx hb dX5_undo_27 rfl ?_
      refine w_geti hX hK hH ck5 sh0 4 fi5_4 q1_182 dX5_undo_28 ?_
      refine lv_iconst (v := 1) hx hb dX5_undo_31 (by decide) ?_
      refine lv_isub hx hb dX5_undo_32 ?_
      refine w_puti hX hK hH ck5 sh0 4 fw5_4 q1_182 dX5_undo_33 (fun I1 H locs hI hH => ?_)
      have hq := hq I1 hI
      refine lv_aload_n hx hb dX5_undo_36 rfl (lv_at hl 0 rfl) ?_
      refine w_getr hX hK hH ck5 sh0 3 23 23 fr5_3 rfl q1_181 dX5_undo_37 ?_
      refine lv_aload_n hx hb dX5_undo_40 rfl (lv_at hl 0 rfl) ?_
      refine w_geti hX hK hH ck5 sh0 4 fi5_4 q1_182 dX5_undo_41 ?_
      obtain ⟨hc, hq⟩ := hq
      refine w_aald hX hK hH (sf5_3 sh0) hc dX5_undo_44 ?_
      refine lv_astore_n (lv' := [(1, .ref (b + (wSv (I1 23 ((I1 0 4)).toNatClampNeg)))), (0, .ref (b + 0))]) hx hb dX5_undo_45 rfl hl (by decide) rfl (fun ls hl => ?_)
      refine lv_aload_n hx hb dX5_undo_46 rfl (lv_at hl 0 rfl) ?_
      refine lv_ifnull hx hb dX5_undo_47 ?_
      refine lv_aload_n hx hb dX5_undo_50 rfl (lv_at hl 1 rfl) ?_
      refine w_getr hX hK hH ck5 sh0 0 1 1 fr5_0 rfl q1_178 dX5_undo_51 ?_
      refine lv_aload_n hx hb dX5_undo_54 rfl (lv_at hl 0 rfl) ?_
      obtain ⟨hz61, hq⟩ := hq
      obtain ⟨hp, hq⟩ := hq
      refine w_cV hH (w_rV (As := [.ref (b + (wSv (I1 23 ((I1 0 4)).toNatClampNeg)))]) (rest := []) hX hK hE hH (c_X3_copyFrom (sf5_0 sh0) (wSv_sh hz61)  _ hp) ck3 (sf5_0 sh0) q1_222 q1_223 q1_224 q1_2 q1_225 hd_X3_copyFrom ⟨Nat.le_of_ble_eq_true rfl, Nat.le_of_ble_eq_true rfl⟩ ⟨rfl, rfl⟩ rfl hl.1 rfl (Nat.le_of_ble_eq_true rfl) dX5_undo_55 ⟨Nat.zero_le _, Nat.zero_le _⟩) (fun  I2 H locs hpo hH => ?_)
      have hq := hq  I2 hpo
      exact s_X5_undo_58  C0   _ _ _ _ hq hH (lv_sub hl [1] rfl)
    · have hq := hq.2 hc
      exact s_X5_undo_16  C0   _ _ _ _ hq hH (lv_sub hl [] rfl)
abbrev rm_X5_undox : Room := { frames := 8, cells := 1, slots := 6, locals := 120 }

set_option maxRecDepth 100000 in
set_option maxHeartbeats 4000000 in
theorem s_X5_undox_58 {X : String → wI → Prop} (hst : l.stackTraces = false) (hEx : ∀ x ∈ c.exceptionTable.toList, False) (C0 : wCx p m c s args meth cX5_undo 2 RX5 (some .int) D cs ad b) : ∀  (I : wI) (H : Heap) (locs : List Loc) (ls : Array Slot), v_X5_undox_58 X  I → wH D cs b G I s H locs → lv_has ls 2 [(0, .ref (b + 0))] → W p l e rm_X5_undox s m args below meth c H locs 0 0 (vx_MQ below (va_Qi (fun (_ : Int32) (_ : wI) => False) (wPo D cs b G) (fun q => b ≤ q)) (wXC D cs b G X) args s 1 6 (fun q => b ≤ q)) (F0 m 58 ls []) := by
  obtain ⟨hX, hr, hlk, hK, hE⟩ := id C0
  have hx := hX.1
  have hb := hX.2.1
  have hown := hX.2.2.2.1
  have hts := hX.2.2.2.2
  intro  I H locs ls hq hH hl
  unfold v_X5_undox_58 at hq
  refine lv_aload_n hx hb dX5_undo_58 rfl (lv_at hl 0 rfl) ?_
  refine w_geti hX hK hH ck5 sh0 4 fi5_4 q1_182 dX5_undo_59 ?_
  exact hq.elim
set_option maxRecDepth 100000 in
set_option maxHeartbeats 4000000 in
theorem s_X5_undox_16 {X : String → wI → Prop} (hst : l.stackTraces = false) (hEx : ∀ x ∈ c.exceptionTable.toList, False) (C0 : wCx p m c s args meth cX5_undo 2 RX5 (some .int) D cs ad b) : ∀  (I : wI) (H : Heap) (locs : List Loc) (ls : Array Slot), v_X5_undox_16 X  I → wH D cs b G I s H locs → lv_has ls 2 [] → W p l e rm_X5_undox s m args below meth c H locs 0 0 (vx_MQ below (va_Qi (fun (_ : Int32) (_ : wI) => False) (wPo D cs b G) (fun q => b ≤ q)) (wXC D cs b G X) args s 1 6 (fun q => b ≤ q)) (F0 m 16 ls []) := by
  obtain ⟨hX, hr, hlk, hK, hE⟩ := id C0
  have hx := hX.1
  have hb := hX.2.1
  have hown := hX.2.2.2.1
  have hts := hX.2.2.2.2
  intro  I H locs ls hq hH hl
  unfold v_X5_undox_16 at hq
  exact w_throw th_X5_76_175_80 hX hst hlk hEx hE hH hl.1 dX5_undo_16 dX5_undo_19 dX5_undo_20 dX5_undo_22 dX5_undo_25 ⟨Nat.le_of_ble_eq_true rfl, Nat.le_of_ble_eq_true rfl, Nat.le_of_ble_eq_true rfl, Nat.le_of_ble_eq_true rfl⟩ hq
set_option maxRecDepth 100000 in
set_option maxHeartbeats 4000000 in
theorem c_X5_undox {l : Launch} {D : va_G} {cs : wC4} {ad : Nat → Nat} {b : Nat} {G : wG} (hst : l.stackTraces = false)  (I : wI) (hp : pre_X5_undox  I) : vx_Met l yX5_undo (ws_ yX5_undo cX5_undo 2 (some .int)) rm_X5_undox (va_Pc [.ref (b + 0)] (wPr D cs ad b G I)) (va_Qi (fun (_ : Int32) (_ : wI) => False) (wPo D cs b G) (fun q => b ≤ q)) (wXC D cs b G (exc_X5_undo  I)) 1 6 (fun q => b ≤ q) := by
  have hq := vc_X5_undox  I hp
  refine w_metx (by decide) (Nat.le_of_ble_eq_true rfl) ?_
  intro p e s m below meth c hX hr hlk hEx hK hE hH ls hl
  have C0 : wCx p m c s _ meth cX5_undo 2 RX5 (some .int) D cs ad b := ⟨hX, hr, hlk, hK, hE⟩
  have hX : CallFix p m c cX5_undo 2 s _ lw_all RX5 := hX
  have hx := hX.1
  have hb := hX.2.1
  have hown := hX.2.2.2.1
  have hts := hX.2.2.2.2
  have hl : lv_has ls 2 [(0, .ref (b + 0))] := hl
  unfold v_X5_undox at hq
  refine lv_aload_n hx hb dX5_undo_0 rfl (lv_at hl 0 rfl) ?_
  refine w_geti hX hK hH ck5 sh0 4 fi5_4 q1_182 dX5_undo_1 ?_
  refine lv_if_le (tgt := 16) hx hb dX5_undo_4 (by decide) (fun hc => ?_) (fun hc => ?_)
  · have hq := hq.1 hc
    exact s_X5_undox_16 hst hEx C0   _ _ _ _ hq hH (lv_sub hl [] rfl)
  · have hq := hq.2 hc
    refine lv_aload_n hx hb dX5_undo_7 rfl (lv_at hl 0 rfl) ?_
    refine w_geti hX hK hH ck5 sh0 4 fi5_4 q1_182 dX5_undo_8 ?_
    refine lv_bipush (v := 6) hx hb dX5_undo_11 (by decide) ?_
    refine lv_icmp_le (tgt := 26) hx hb dX5_undo_13 (by decide) (fun hc => ?_) (fun hc => ?_)
    · have hq := hq.1 hc
      refine lv_aload_n hx hb dX5_undo_26 rfl (lv_at hl 0 rfl) ?_
      refine lv_dup hx hb dX5_undo_27 rfl ?_
      refine w_geti hX hK hH ck5 sh0 4 fi5_4 q1_182 dX5_undo_28 ?_
      refine lv_iconst (v := 1) hx hb dX5_undo_31 (by decide) ?_
      refine lv_isub hx hb dX5_undo_32 ?_
      refine w_puti hX hK hH ck5 sh0 4 fw5_4 q1_182 dX5_undo_33 (fun I1 H locs hI hH => ?_)
      have hq := hq I1 hI
      refine lv_aload_n hx hb dX5_undo_36 rfl (lv_at hl 0 rfl) ?_
      refine w_getr hX hK hH ck5 sh0 3 23 23 fr5_3 rfl q1_181 dX5_undo_37 ?_
      refine lv_aload_n hx hb dX5_undo_40 rfl (lv_at hl 0 rfl) ?_
      refine w_geti hX hK hH ck5 sh0 4 fi5_4 q1_182 dX5_undo_41 ?_
      obtain ⟨hc, hq⟩ := hq
      refine w_aald hX hK hH (sf5_3 sh0) hc dX5_undo_44 ?_
      refine lv_astore_n (lv' := [(1, .ref (b + (wSv (I1 23 ((I1 0 4)).toNatClampNeg)))), (0, .ref (b + 0))]) hx hb dX5_undo_45 rfl hl (by decide) rfl (fun ls hl => ?_)
      refine lv_aload_n hx hb dX5_undo_46 rfl (lv_at hl 0 rfl) ?_
      refine lv_ifnull hx hb dX5_undo_47 ?_
      refine lv_aload_n hx hb dX5_undo_50 rfl (lv_at hl 1 rfl) ?_
      refine w_getr hX hK hH ck5 sh0 0 1 1 fr5_0 rfl q1_178 dX5_undo_51 ?_
      refine lv_aload_n hx hb dX5_undo_54 rfl (lv_at hl 0 rfl) ?_
      obtain ⟨hz61, hq⟩ := hq
      obtain ⟨hp, hq⟩ := hq
      refine w_cV hH (w_rV (As := [.ref (b + (wSv (I1 23 ((I1 0 4)).toNatClampNeg)))]) (rest := []) hX hK hE hH (c_X3_copyFrom (sf5_0 sh0) (wSv_sh hz61)  _ hp) ck3 (sf5_0 sh0) q1_222 q1_223 q1_224 q1_2 q1_225 hd_X3_copyFrom ⟨Nat.le_of_ble_eq_true rfl, Nat.le_of_ble_eq_true rfl⟩ ⟨rfl, rfl⟩ rfl hl.1 rfl (Nat.le_of_ble_eq_true rfl) dX5_undo_55 ⟨Nat.zero_le _, Nat.zero_le _⟩) (fun  I2 H locs hpo hH => ?_)
      have hq := hq  I2 hpo
      exact s_X5_undox_58 hst hEx C0   _ _ _ _ hq hH (lv_sub hl [1] rfl)
    · have hq := hq.2 hc
      exact s_X5_undox_16 hst hEx C0   _ _ _ _ hq hH (lv_sub hl [] rfl)
abbrev rm_X0_discAt : Room := { frames := 0, cells := 0, slots := 0, locals := 0 }
theorem hd_X0_discAt : yX0_discAt.cls = RX0 ∧ yX0_discAt.cls ≠ "java/lang/invoke/MethodHandle" ∧ yX0_discAt.cls ≠ "java/lang/invoke/VarHandle" ∧ (parseMethodDescriptor yX0_discAt.desc).map (fun d => d.parameters.length) = some 1 := by decide +kernel
set_option maxRecDepth 100000 in
set_option maxHeartbeats 4000000 in
theorem s_X0_discAt_20 {k : Nat} {x1 : Int32} {I : wI} {Q : Int32 → Prop} (hs : wSh k = (0, 0)) (C0 : wCx p m c s args meth cX0_discAt 2 RX0 (some .int) D cs ad b) : ∀ (t0 : Int32) (H : Heap) (locs : List Loc) (ls : Array Slot), v_X0_discAt_20 k x1 I Q t0 → wH D cs b G I s H locs → lv_has ls 2 [] → W p l e rm_X0_discAt s m args below meth c H locs 0 0 (MQ below (va_Qi (fun r I' => I' = I ∧ Q r) (wPo D cs b G) (fun q => b ≤ q)) args s 0 0 (fun q => b ≤ q)) (F0 m 20 ls [.int t0]) := by
  obtain ⟨hX, hr, hlk, hK, hE⟩ := id C0
  have hx := hX.1
  have hb := hX.2.1
  have hown := hX.2.2.2.1
  have hts := hX.2.2.2.2
  intro t0 H locs ls hq hH hl
  unfold v_X0_discAt_20 at hq
  exact w_eI hX hr hlk hH ⟨rfl, hq⟩ dX0_discAt_20
set_option maxRecDepth 100000 in
set_option maxHeartbeats 4000000 in
theorem s_X0_discAt_19 {k : Nat} {x1 : Int32} {I : wI} {Q : Int32 → Prop} (hs : wSh k = (0, 0)) (C0 : wCx p m c s args meth cX0_discAt 2 RX0 (some .int) D cs ad b) : ∀  (H : Heap) (locs : List Loc) (ls : Array Slot), v_X0_discAt_19 k x1 I Q  → wH D cs b G I s H locs → lv_has ls 2 [] → W p l e rm_X0_discAt s m args below meth c H locs 0 0 (MQ below (va_Qi (fun r I' => I' = I ∧ Q r) (wPo D cs b G) (fun q => b ≤ q)) args s 0 0 (fun q => b ≤ q)) (F0 m 19 ls []) := by
  obtain ⟨hX, hr, hlk, hK, hE⟩ := id C0
  have hx := hX.1
  have hb := hX.2.1
  have hown := hX.2.2.2.1
  have hts := hX.2.2.2.2
  intro  H locs ls hq hH hl
  unfold v_X0_discAt_19 at hq
  refine lv_iconst (v := -1) hx hb dX0_discAt_19 (by decide) ?_
  exact s_X0_discAt_20 hs C0  (-1 : Int32) _ _ _ hq hH (lv_sub hl [] rfl)
set_option maxRecDepth 100000 in
set_option maxHeartbeats 4000000 in
theorem c_X0_discAt {l : Launch} {D : va_G} {cs : wC4} {ad : Nat → Nat} {b : Nat} {G : wG} {k : Nat} (hs : wSh k = (0, 0)) (x1 : Int32) (I : wI) (hp : pre_X0_discAt k x1 I) : Met l yX0_discAt (ws_ yX0_discAt cX0_discAt 2 (some .int)) rm_X0_discAt (va_Pc [.ref (b + k), .int x1] (wPr D cs ad b G I)) (va_Qi (fun r I' => I' = I ∧ post_X0_discAt k x1 I r) (wPo D cs b G) (fun q => b ≤ q)) 0 0 (fun q => b ≤ q) := by
  have hq := vc_X0_discAt k x1 I hp
  refine w_met (by decide) (Nat.le_of_ble_eq_true rfl) ?_
  intro p e s m below meth c hX hr hlk hK hE hH ls hl
  have C0 : wCx p m c s _ meth cX0_discAt 2 RX0 (some .int) D cs ad b := ⟨hX, hr, hlk, hK, hE⟩
  have hX : CallFix p m c cX0_discAt 2 s _ lw_all RX0 := hX
  have hx := hX.1
  have hb := hX.2.1
  have hown := hX.2.2.2.1
  have hts := hX.2.2.2.2
  have hl : lv_has ls 2 [(0, .ref (b + k)), (1, .int x1)] := hl
  unfold v_X0_discAt at hq
  refine lv_iload_n hx hb dX0_discAt_0 rfl (lv_at hl 1 rfl) ?_
  refine lv_if_lt (tgt := 19) hx hb dX0_discAt_1 (by decide) (fun hc => ?_) (fun hc => ?_)
  · have hq := hq.1 hc
    exact s_X0_discAt_19 hs C0   _ _ _ hq hH (lv_sub hl [] rfl)
  · have hq := hq.2 hc
    refine lv_iload_n hx hb dX0_discAt_4 rfl (lv_at hl 1 rfl) ?_
    refine lv_bipush (v := 6) hx hb dX0_discAt_5 (by decide) ?_
    refine lv_icmp_ge (tgt := 19) hx hb dX0_discAt_7 (by decide) (fun hc => ?_) (fun hc => ?_)
    · have hq := hq.1 hc
      exact s_X0_discAt_19 hs C0   _ _ _ hq hH (lv_sub hl [] rfl)
    · have hq := hq.2 hc
      refine lv_aload_n hx hb dX0_discAt_10 rfl (lv_at hl 0 rfl) ?_
      refine w_getr hX hK hH ck0 hs 0 1 (k + 1) fr0_0 rfl q1_38 dX0_discAt_11 ?_
      refine lv_iload_n hx hb dX0_discAt_14 rfl (lv_at hl 1 rfl) ?_
      obtain ⟨hc, hq⟩ := hq
      refine w_iald hX hK hH (sf0_0 hs) hc dX0_discAt_15 ?_
      refine lv_goto (tgt := 20) hx hb dX0_discAt_16 (by decide) ?_
      exact s_X0_discAt_20 hs C0  (I (k + 1) (x1).toNatClampNeg) _ _ _ hq hH (lv_sub hl [] rfl)
abbrev rm_X0_notchAt : Room := { frames := 0, cells := 0, slots := 0, locals := 0 }
theorem hd_X0_notchAt : yX0_notchAt.cls = RX0 ∧ yX0_notchAt.cls ≠ "java/lang/invoke/MethodHandle" ∧ yX0_notchAt.cls ≠ "java/lang/invoke/VarHandle" ∧ (parseMethodDescriptor yX0_notchAt.desc).map (fun d => d.parameters.length) = some 1 := by decide +kernel
set_option maxRecDepth 100000 in
set_option maxHeartbeats 4000000 in
theorem s_X0_notchAt_20 {k : Nat} {x1 : Int32} {I : wI} {Q : Int32 → Prop} (hs : wSh k = (0, 0)) (C0 : wCx p m c s args meth cX0_notchAt 2 RX0 (some .int) D cs ad b) : ∀ (t0 : Int32) (H : Heap) (locs : List Loc) (ls : Array Slot), v_X0_notchAt_20 k x1 I Q t0 → wH D cs b G I s H locs → lv_has ls 2 [] → W p l e rm_X0_notchAt s m args below meth c H locs 0 0 (MQ below (va_Qi (fun r I' => I' = I ∧ Q r) (wPo D cs b G) (fun q => b ≤ q)) args s 0 0 (fun q => b ≤ q)) (F0 m 20 ls [.int t0]) := by
  obtain ⟨hX, hr, hlk, hK, hE⟩ := id C0
  have hx := hX.1
  have hb := hX.2.1
  have hown := hX.2.2.2.1
  have hts := hX.2.2.2.2
  intro t0 H locs ls hq hH hl
  unfold v_X0_notchAt_20 at hq
  exact w_eI hX hr hlk hH ⟨rfl, hq⟩ dX0_notchAt_20
set_option maxRecDepth 100000 in
set_option maxHeartbeats 4000000 in
theorem s_X0_notchAt_19 {k : Nat} {x1 : Int32} {I : wI} {Q : Int32 → Prop} (hs : wSh k = (0, 0)) (C0 : wCx p m c s args meth cX0_notchAt 2 RX0 (some .int) D cs ad b) : ∀  (H : Heap) (locs : List Loc) (ls : Array Slot), v_X0_notchAt_19 k x1 I Q  → wH D cs b G I s H locs → lv_has ls 2 [] → W p l e rm_X0_notchAt s m args below meth c H locs 0 0 (MQ below (va_Qi (fun r I' => I' = I ∧ Q r) (wPo D cs b G) (fun q => b ≤ q)) args s 0 0 (fun q => b ≤ q)) (F0 m 19 ls []) := by
  obtain ⟨hX, hr, hlk, hK, hE⟩ := id C0
  have hx := hX.1
  have hb := hX.2.1
  have hown := hX.2.2.2.1
  have hts := hX.2.2.2.2
  intro  H locs ls hq hH hl
  unfold v_X0_notchAt_19 at hq
  refine lv_iconst (v := 0) hx hb dX0_notchAt_19 (by decide) ?_
  exact s_X0_notchAt_20 hs C0  (0 : Int32) _ _ _ hq hH (lv_sub hl [] rfl)
set_option maxRecDepth 100000 in
set_option maxHeartbeats 4000000 in
theorem c_X0_notchAt {l : Launch} {D : va_G} {cs : wC4} {ad : Nat → Nat} {b : Nat} {G : wG} {k : Nat} (hs : wSh k = (0, 0)) (x1 : Int32) (I : wI) (hp : pre_X0_notchAt k x1 I) : Met l yX0_notchAt (ws_ yX0_notchAt cX0_notchAt 2 (some .int)) rm_X0_notchAt (va_Pc [.ref (b + k), .int x1] (wPr D cs ad b G I)) (va_Qi (fun r I' => I' = I ∧ post_X0_notchAt k x1 I r) (wPo D cs b G) (fun q => b ≤ q)) 0 0 (fun q => b ≤ q) := by
  have hq := vc_X0_notchAt k x1 I hp
  refine w_met (by decide) (Nat.le_of_ble_eq_true rfl) ?_
  intro p e s m below meth c hX hr hlk hK hE hH ls hl
  have C0 : wCx p m c s _ meth cX0_notchAt 2 RX0 (some .int) D cs ad b := ⟨hX, hr, hlk, hK, hE⟩
  have hX : CallFix p m c cX0_notchAt 2 s _ lw_all RX0 := hX
  have hx := hX.1
  have hb := hX.2.1
  have hown := hX.2.2.2.1
  have hts := hX.2.2.2.2
  have hl : lv_has ls 2 [(0, .ref (b + k)), (1, .int x1)] := hl
  unfold v_X0_notchAt at hq
  refine lv_iload_n hx hb dX0_notchAt_0 rfl (lv_at hl 1 rfl) ?_
  refine lv_if_lt (tgt := 19) hx hb dX0_notchAt_1 (by decide) (fun hc => ?_) (fun hc => ?_)
  · have hq := hq.1 hc
    exact s_X0_notchAt_19 hs C0   _ _ _ hq hH (lv_sub hl [] rfl)
  · have hq := hq.2 hc
    refine lv_iload_n hx hb dX0_notchAt_4 rfl (lv_at hl 1 rfl) ?_
    refine lv_bipush (v := 6) hx hb dX0_notchAt_5 (by decide) ?_
    refine lv_icmp_ge (tgt := 19) hx hb dX0_notchAt_7 (by decide) (fun hc => ?_) (fun hc => ?_)
    · have hq := hq.1 hc
      exact s_X0_notchAt_19 hs C0   _ _ _ hq hH (lv_sub hl [] rfl)
    · have hq := hq.2 hc
      refine lv_aload_n hx hb dX0_notchAt_10 rfl (lv_at hl 0 rfl) ?_
      refine w_getr hX hK hH ck0 hs 1 2 (k + 2) fr0_1 rfl q1_39 dX0_notchAt_11 ?_
      refine lv_iload_n hx hb dX0_notchAt_14 rfl (lv_at hl 1 rfl) ?_
      obtain ⟨hc, hq⟩ := hq
      refine w_iald hX hK hH (sf0_1 hs) hc dX0_notchAt_15 ?_
      refine lv_goto (tgt := 20) hx hb dX0_notchAt_16 (by decide) ?_
      exact s_X0_notchAt_20 hs C0  (I (k + 2) (x1).toNatClampNeg) _ _ _ hq hH (lv_sub hl [] rfl)
abbrev rm_X0_agreesAt : Room := { frames := 1, cells := 0, slots := 0, locals := 21 }
theorem hd_X0_agreesAt : yX0_agreesAt.cls = RX0 ∧ yX0_agreesAt.cls ≠ "java/lang/invoke/MethodHandle" ∧ yX0_agreesAt.cls ≠ "java/lang/invoke/VarHandle" ∧ (parseMethodDescriptor yX0_agreesAt.desc).map (fun d => d.parameters.length) = some 2 := by decide +kernel
set_option maxRecDepth 100000 in
set_option maxHeartbeats 4000000 in
theorem s_X0_agreesAt_31 {k : Nat} {k1 : Nat} {x2 : Int32} {I : wI} {Q : Int32 → Prop} (hs : wSh k = (0, 0)) (hs1 : wSh k1 = (0, 0)) (C0 : wCx p m c s args meth cX0_agreesAt 3 RX0 (some .boolean) D cs ad b) : ∀ (t0 : Int32) (H : Heap) (locs : List Loc) (ls : Array Slot), v_X0_agreesAt_31 k k1 x2 I Q t0 → wH D cs b G I s H locs → lv_has ls 3 [] → W p l e rm_X0_agreesAt s m args below meth c H locs 0 0 (MQ below (va_Qi (fun r I' => I' = I ∧ Q r) (wPo D cs b G) (fun q => b ≤ q)) args s 0 0 (fun q => b ≤ q)) (F0 m 31 ls [.int t0]) := by
  obtain ⟨hX, hr, hlk, hK, hE⟩ := id C0
  have hx := hX.1
  have hb := hX.2.1
  have hown := hX.2.2.2.1
  have hts := hX.2.2.2.2
  intro t0 H locs ls hq hH hl
  unfold v_X0_agreesAt_31 at hq
  obtain ⟨hz, hq⟩ := hq
  exact w_eZ hz hX hr hlk hH ⟨rfl, hq⟩ dX0_agreesAt_31
set_option maxRecDepth 100000 in
set_option maxHeartbeats 4000000 in
theorem s_X0_agreesAt_30 {k : Nat} {k1 : Nat} {x2 : Int32} {I : wI} {Q : Int32 → Prop} (hs : wSh k = (0, 0)) (hs1 : wSh k1 = (0, 0)) (C0 : wCx p m c s args meth cX0_agreesAt 3 RX0 (some .boolean) D cs ad b) : ∀  (H : Heap) (locs : List Loc) (ls : Array Slot), v_X0_agreesAt_30 k k1 x2 I Q  → wH D cs b G I s H locs → lv_has ls 3 [] → W p l e rm_X0_agreesAt s m args below meth c H locs 0 0 (MQ below (va_Qi (fun r I' => I' = I ∧ Q r) (wPo D cs b G) (fun q => b ≤ q)) args s 0 0 (fun q => b ≤ q)) (F0 m 30 ls []) := by
  obtain ⟨hX, hr, hlk, hK, hE⟩ := id C0
  have hx := hX.1
  have hb := hX.2.1
  have hown := hX.2.2.2.1
  have hts := hX.2.2.2.2
  intro  H locs ls hq hH hl
  unfold v_X0_agreesAt_30 at hq
  refine lv_iconst (v := 0) hx hb dX0_agreesAt_30 (by decide) ?_
  exact s_X0_agreesAt_31 hs hs1 C0  (0 : Int32) _ _ _ hq hH (lv_sub hl [] rfl)
set_option maxRecDepth 100000 in
set_option maxHeartbeats 4000000 in
theorem c_X0_agreesAt {l : Launch} {D : va_G} {cs : wC4} {ad : Nat → Nat} {b : Nat} {G : wG} {k : Nat} {k1 : Nat} (hs : wSh k = (0, 0)) (hs1 : wSh k1 = (0, 0)) (x2 : Int32) (I : wI) (hp : pre_X0_agreesAt k k1 x2 I) : Met l yX0_agreesAt (ws_ yX0_agreesAt cX0_agreesAt 3 (some .boolean)) rm_X0_agreesAt (va_Pc [.ref (b + k), .ref (b + k1), .int x2] (wPr D cs ad b G I)) (va_Qi (fun r I' => I' = I ∧ post_X0_agreesAt k k1 x2 I r) (wPo D cs b G) (fun q => b ≤ q)) 0 0 (fun q => b ≤ q) := by
  have hq := vc_X0_agreesAt k k1 x2 I hp
  refine w_met (by decide) (Nat.le_of_ble_eq_true rfl) ?_
  intro p e s m below meth c hX hr hlk hK hE hH ls hl
  have C0 : wCx p m c s _ meth cX0_agreesAt 3 RX0 (some .boolean) D cs ad b := ⟨hX, hr, hlk, hK, hE⟩
  have hX : CallFix p m c cX0_agreesAt 3 s _ lw_all RX0 := hX
  have hx := hX.1
  have hb := hX.2.1
  have hown := hX.2.2.2.1
  have hts := hX.2.2.2.2
  have hl : lv_has ls 3 [(0, .ref (b + k)), (1, .ref (b + k1)), (2, .int x2)] := hl
  unfold v_X0_agreesAt at hq
  refine lv_aload_n hx hb dX0_agreesAt_0 rfl (lv_at hl 0 rfl) ?_
  refine lv_iload_n hx hb dX0_agreesAt_1 rfl (lv_at hl 2 rfl) ?_
  obtain ⟨hp, hq⟩ := hq
  refine w_cIp hH (w_rV (As := [.int x2]) (rest := []) hX hK hE hH (c_X0_discAt hs _ _ hp) ck0 hs q3_25 q3_14 q3_15 q1_3 q3_16 hd_X0_discAt ⟨Nat.le_of_ble_eq_true rfl, Nat.le_of_ble_eq_true rfl⟩ ⟨rfl, rfl⟩ rfl hl.1 rfl (Nat.le_of_ble_eq_true rfl) dX0_agreesAt_2 ⟨Nat.zero_le _, Nat.zero_le _⟩) (fun r1  H locs hpo hH => ?_)
  have hq := hq r1  hpo
  refine lv_aload_n hx hb dX0_agreesAt_5 rfl (lv_at hl 1 rfl) ?_
  refine lv_iload_n hx hb dX0_agreesAt_6 rfl (lv_at hl 2 rfl) ?_
  obtain ⟨hp, hq⟩ := hq
  refine w_cIp hH (w_rV (As := [.int x2]) (rest := [.int r1]) hX hK hE hH (c_X0_discAt hs1 _ _ hp) ck0 hs1 q3_25 q3_14 q3_15 q1_3 q3_16 hd_X0_discAt ⟨Nat.le_of_ble_eq_true rfl, Nat.le_of_ble_eq_true rfl⟩ ⟨rfl, rfl⟩ rfl hl.1 rfl (Nat.le_of_ble_eq_true rfl) dX0_agreesAt_7 ⟨Nat.zero_le _, Nat.zero_le _⟩) (fun r2  H locs hpo hH => ?_)
  have hq := hq r2  hpo
  refine lv_icmp_ne (tgt := 30) hx hb dX0_agreesAt_10 (by decide) (fun hc => ?_) (fun hc => ?_)
  · have hq := hq.1 hc
    exact s_X0_agreesAt_30 hs hs1 C0   _ _ _ hq hH (lv_sub hl [] rfl)
  · have hq := hq.2 hc
    refine lv_aload_n hx hb dX0_agreesAt_13 rfl (lv_at hl 0 rfl) ?_
    refine lv_iload_n hx hb dX0_agreesAt_14 rfl (lv_at hl 2 rfl) ?_
    obtain ⟨hp, hq⟩ := hq
    refine w_cIp hH (w_rV (As := [.int x2]) (rest := []) hX hK hE hH (c_X0_notchAt hs _ _ hp) ck0 hs q3_26 q3_18 q3_19 q1_3 q3_20 hd_X0_notchAt ⟨Nat.le_of_ble_eq_true rfl, Nat.le_of_ble_eq_true rfl⟩ ⟨rfl, rfl⟩ rfl hl.1 rfl (Nat.le_of_ble_eq_true rfl) dX0_agreesAt_15 ⟨Nat.zero_le _, Nat.zero_le _⟩) (fun r3  H locs hpo hH => ?_)
    have hq := hq r3  hpo
    refine lv_aload_n hx hb dX0_agreesAt_18 rfl (lv_at hl 1 rfl) ?_
    refine lv_iload_n hx hb dX0_agreesAt_19 rfl (lv_at hl 2 rfl) ?_
    obtain ⟨hp, hq⟩ := hq
    refine w_cIp hH (w_rV (As := [.int x2]) (rest := [.int r3]) hX hK hE hH (c_X0_notchAt hs1 _ _ hp) ck0 hs1 q3_26 q3_18 q3_19 q1_3 q3_20 hd_X0_notchAt ⟨Nat.le_of_ble_eq_true rfl, Nat.le_of_ble_eq_true rfl⟩ ⟨rfl, rfl⟩ rfl hl.1 rfl (Nat.le_of_ble_eq_true rfl) dX0_agreesAt_20 ⟨Nat.zero_le _, Nat.zero_le _⟩) (fun r4  H locs hpo hH => ?_)
    have hq := hq r4  hpo
    refine lv_icmp_ne (tgt := 30) hx hb dX0_agreesAt_23 (by decide) (fun hc => ?_) (fun hc => ?_)
    · have hq := hq.1 hc
      exact s_X0_agreesAt_30 hs hs1 C0   _ _ _ hq hH (lv_sub hl [] rfl)
    · have hq := hq.2 hc
      refine lv_iconst (v := 1) hx hb dX0_agreesAt_26 (by decide) ?_
      refine lv_goto (tgt := 31) hx hb dX0_agreesAt_27 (by decide) ?_
      exact s_X0_agreesAt_31 hs hs1 C0  (1 : Int32) _ _ _ hq hH (lv_sub hl [] rfl)
end
