section
variable {p : Program} {l : Launch} {e : Env} {s : State} {m : MethodId} {args : Array Value} {below : List Frame} {meth : Method} {c : Code} {D : va_G} {cs : wC4} {ad : Nat → Nat} {b : Nat} {G : wG}
abbrev rm_X5_pairx : Room := { frames := 9, cells := 1, slots := 6, locals := 140 }

set_option maxRecDepth 100000 in
set_option maxHeartbeats 4000000 in
theorem s_X5_pairx_111 {x1 : Int32} {x2 : Int32} {x3 : Int32} {X : String → wI → Prop} (hst : l.stackTraces = false) (hEx : ∀ x ∈ c.exceptionTable.toList, False) (C0 : wCx p m c s args meth cX5_pair 4 RX5 (some .int) D cs ad b) : ∀ (t0 : Int32) (I : wI) (H : Heap) (locs : List Loc) (ls : Array Slot), v_X5_pairx_111 x1 x2 x3 X t0 I → wH D cs b G I s H locs → lv_has ls 4 [] → W p l e rm_X5_pairx s m args below meth c H locs 0 0 (vx_MQ below (va_Qi (fun (_ : Int32) (_ : wI) => False) (wPo D cs b G) (fun q => b ≤ q)) (wXC D cs b G X) args s 1 6 (fun q => b ≤ q)) (F0 m 111 ls [.int t0]) := by
  obtain ⟨hX, hr, hlk, hK, hE⟩ := id C0
  have hx := hX.1
  have hb := hX.2.1
  have hown := hX.2.2.2.1
  have hts := hX.2.2.2.2
  intro t0 I H locs ls hq hH hl
  unfold v_X5_pairx_111 at hq
  exact hq.elim
set_option maxRecDepth 100000 in
set_option maxHeartbeats 4000000 in
theorem s_X5_pairx_17 {x1 : Int32} {x2 : Int32} {x3 : Int32} {X : String → wI → Prop} (hst : l.stackTraces = false) (hEx : ∀ x ∈ c.exceptionTable.toList, False) (C0 : wCx p m c s args meth cX5_pair 4 RX5 (some .int) D cs ad b) : ∀  (I : wI) (H : Heap) (locs : List Loc) (ls : Array Slot), v_X5_pairx_17 x1 x2 x3 X  I → wH D cs b G I s H locs → lv_has ls 4 [] → W p l e rm_X5_pairx s m args below meth c H locs 0 0 (vx_MQ below (va_Qi (fun (_ : Int32) (_ : wI) => False) (wPo D cs b G) (fun q => b ≤ q)) (wXC D cs b G X) args s 1 6 (fun q => b ≤ q)) (F0 m 17 ls []) := by
  obtain ⟨hX, hr, hlk, hK, hE⟩ := id C0
  have hx := hX.1
  have hb := hX.2.1
  have hown := hX.2.2.2.1
  have hts := hX.2.2.2.2
  intro  I H locs ls hq hH hl
  unfold v_X5_pairx_17 at hq
  exact w_throw th_X5_66_190_70 hX hst hlk hEx hE hH hl.1 dX5_pair_17 dX5_pair_20 dX5_pair_21 dX5_pair_23 dX5_pair_26 ⟨Nat.le_of_ble_eq_true rfl, Nat.le_of_ble_eq_true rfl, Nat.le_of_ble_eq_true rfl, Nat.le_of_ble_eq_true rfl⟩ hq
set_option maxRecDepth 100000 in
set_option maxHeartbeats 4000000 in
theorem c_X5_pairx {l : Launch} {D : va_G} {cs : wC4} {ad : Nat → Nat} {b : Nat} {G : wG} (hst : l.stackTraces = false) (x1 : Int32) (x2 : Int32) (x3 : Int32) (I : wI) (hp : pre_X5_pairx x1 x2 x3 I) : vx_Met l yX5_pair (ws_ yX5_pair cX5_pair 4 (some .int)) rm_X5_pairx (va_Pc [.ref (G.1 0), .int x1, .int x2, .int x3] (wPr D cs ad b G I)) (va_Qi (fun (_ : Int32) (_ : wI) => False) (wPo D cs b G) (fun q => b ≤ q)) (wXC D cs b G (exc_X5_pair x1 x2 x3 I)) 1 6 (fun q => b ≤ q) := by
  have hq := vc_X5_pairx x1 x2 x3 I hp
  refine w_metx (by decide) (Nat.le_of_ble_eq_true rfl) ?_
  intro p e s m below meth c hX hr hlk hEx hK hE hH ls hl
  have C0 : wCx p m c s _ meth cX5_pair 4 RX5 (some .int) D cs ad b := ⟨hX, hr, hlk, hK, hE⟩
  have hX : CallFix p m c cX5_pair 4 s _ lw_all RX5 := hX
  have hx := hX.1
  have hb := hX.2.1
  have hown := hX.2.2.2.1
  have hts := hX.2.2.2.2
  have hl : lv_has ls 4 [(0, .ref (G.1 0)), (1, .int x1), (2, .int x2), (3, .int x3)] := hl
  unfold v_X5_pairx at hq
  refine lv_iload_n hx hb dX5_pair_0 rfl (lv_at hl 1 rfl) ?_
  by_cases hok : ok_X5_requireKey x1 I
  · have hq := hq.1 hok
    obtain ⟨hp, hq⟩ := hq
    refine w_cVp hH (w_rS (As := [.int x1]) (rest := []) hX hK hE hH (c_X5_requireKey  _ _ hp) q2_141 q2_142 q1_1 q2_143 hd_X5_requireKey.2 ⟨Nat.le_of_ble_eq_true rfl, Nat.le_of_ble_eq_true rfl⟩ ⟨rfl, rfl⟩ rfl hl.1 rfl (Nat.le_of_ble_eq_true rfl) dX5_pair_1 ⟨Nat.zero_le _, Nat.zero_le _⟩) (fun   H locs hpo hH => ?_)
    have hq := hq   hpo
    refine lv_iload_n hx hb dX5_pair_4 rfl (lv_at hl 2 rfl) ?_
    by_cases hok : ok_X5_requireKey x2 I
    · have hq := hq.1 hok
      obtain ⟨hp, hq⟩ := hq
      refine w_cVp hH (w_rS (As := [.int x2]) (rest := []) hX hK hE hH (c_X5_requireKey  _ _ hp) q2_141 q2_142 q1_1 q2_143 hd_X5_requireKey.2 ⟨Nat.le_of_ble_eq_true rfl, Nat.le_of_ble_eq_true rfl⟩ ⟨rfl, rfl⟩ rfl hl.1 rfl (Nat.le_of_ble_eq_true rfl) dX5_pair_5 ⟨Nat.zero_le _, Nat.zero_le _⟩) (fun   H locs hpo hH => ?_)
      have hq := hq   hpo
      refine lv_iload_n hx hb dX5_pair_8 rfl (lv_at hl 3 rfl) ?_
      refine lv_if_lt (tgt := 17) hx hb dX5_pair_9 (by decide) (fun hc => ?_) (fun hc => ?_)
      · have hq := hq.1 hc
        exact s_X5_pairx_17 hst hEx C0   _ _ _ _ hq hH (lv_sub hl [] rfl)
      · have hq := hq.2 hc
        refine lv_iload_n hx hb dX5_pair_12 rfl (lv_at hl 3 rfl) ?_
        refine lv_iconst (v := 4) hx hb dX5_pair_13 (by decide) ?_
        refine lv_icmp_le (tgt := 27) hx hb dX5_pair_14 (by decide) (fun hc => ?_) (fun hc => ?_)
        · have hq := hq.1 hc
          refine lv_aload_n hx hb dX5_pair_27 rfl (lv_at hl 0 rfl) ?_
          refine lv_iload_n hx hb dX5_pair_28 rfl (lv_at hl 1 rfl) ?_
          refine lv_iload_n hx hb dX5_pair_29 rfl (lv_at hl 2 rfl) ?_
          obtain ⟨hp, hq⟩ := hq
          refine w_cV hH (w_rV (As := [.int x1, .int x2]) (rest := []) hX hK hE hH (c_X5_showPair  _ _ _ hp) ck5 sh0 q2_223 q2_225 qs7 q1_1 q2_226 hd_X5_showPair ⟨Nat.le_of_ble_eq_true rfl, Nat.le_of_ble_eq_true rfl⟩ ⟨rfl, rfl⟩ rfl hl.1 rfl (Nat.le_of_ble_eq_true rfl) dX5_pair_30 ⟨Nat.zero_le _, Nat.zero_le _⟩) (fun  I1 H locs hpo hH => ?_)
          have hq := hq  I1 hpo
          refine lv_iload_n hx hb dX5_pair_33 rfl (lv_at hl 3 rfl) ?_
          by_cases hc0 : x3 = (0 : Int32)
          · have hq := hq.1 hc0
            refine lv_tableIn (tgt := 64) hx hb dX5_pair_34 (by rw [hc0]; decide) (by rw [hc0]; decide) (by rw [hc0]; rfl) (by decide) ?_
            refine lv_aload_n hx hb dX5_pair_64 rfl (lv_at hl 0 rfl) ?_
            refine w_getr hX hK hH ck5 sh0 6 30 30 fr5_6 rfl q1_178 dX5_pair_65 ?_
            obtain ⟨hp, hq⟩ := hq
            refine w_cIp hH (w_rV (As := []) (rest := []) hX hK hE hH (c_X0_reach (sf5_6 sh0)  _ hp) ck0 (sf5_6 sh0) q2_186 q2_187 q2_188 q1_3 q2_189 hd_X0_reach ⟨Nat.le_of_ble_eq_true rfl, Nat.le_of_ble_eq_true rfl⟩ ⟨rfl, rfl⟩ rfl hl.1 rfl (Nat.le_of_ble_eq_true rfl) dX5_pair_68 ⟨Nat.zero_le _, Nat.zero_le _⟩) (fun r2  H locs hpo hH => ?_)
            have hq := hq r2  hpo
            exact hq.elim
          by_cases hc1 : x3 = (1 : Int32)
          · have hq := hq.2.1 hc1
            refine lv_tableIn (tgt := 72) hx hb dX5_pair_34 (by rw [hc1]; decide) (by rw [hc1]; decide) (by rw [hc1]; rfl) (by decide) ?_
            refine lv_aload_n hx hb dX5_pair_72 rfl (lv_at hl 0 rfl) ?_
            refine w_getr hX hK hH ck5 sh0 6 30 30 fr5_6 rfl q1_178 dX5_pair_73 ?_
            obtain ⟨hp, hq⟩ := hq
            refine w_cIp hH (w_rV (As := []) (rest := []) hX hK hE hH (c_X0_reach (sf5_6 sh0)  _ hp) ck0 (sf5_6 sh0) q2_186 q2_187 q2_188 q1_3 q2_189 hd_X0_reach ⟨Nat.le_of_ble_eq_true rfl, Nat.le_of_ble_eq_true rfl⟩ ⟨rfl, rfl⟩ rfl hl.1 rfl (Nat.le_of_ble_eq_true rfl) dX5_pair_76 ⟨Nat.zero_le _, Nat.zero_le _⟩) (fun r3  H locs hpo hH => ?_)
            have hq := hq r3  hpo
            obtain ⟨hp, hq⟩ := hq
            refine w_cIp hH (w_rS (As := [.int r3]) (rest := []) hX hK hE hH (c_J_bitCount  _ _ hp) q2_227 q2_228 q1_12 q2_229 hd_J_bitCount.2 ⟨Nat.le_of_ble_eq_true rfl, Nat.le_of_ble_eq_true rfl⟩ ⟨rfl, rfl⟩ rfl hl.1 rfl (Nat.le_of_ble_eq_true rfl) dX5_pair_79 ⟨Nat.zero_le _, Nat.zero_le _⟩) (fun r4  H locs hpo hH => ?_)
            have hq := hq r4  hpo
            exact hq.elim
          by_cases hc2 : x3 = (2 : Int32)
          · have hq := hq.2.2.1 hc2
            refine lv_tableIn (tgt := 83) hx hb dX5_pair_34 (by rw [hc2]; decide) (by rw [hc2]; decide) (by rw [hc2]; rfl) (by decide) ?_
            refine lv_aload_n hx hb dX5_pair_83 rfl (lv_at hl 0 rfl) ?_
            obtain ⟨hp, hq⟩ := hq
            refine w_cI hH (w_rV (As := []) (rest := []) hX hK hE hH (c_X5_periodByDoing   _ hp) ck5 sh0 q2_180 q2_182 qs5 q1_1 q2_183 hd_X5_periodByDoing ⟨Nat.le_of_ble_eq_true rfl, Nat.le_of_ble_eq_true rfl⟩ ⟨rfl, rfl⟩ rfl hl.1 rfl (Nat.le_of_ble_eq_true rfl) dX5_pair_84 ⟨Nat.zero_le _, Nat.zero_le _⟩) (fun r5 I6 H locs hpo hH => ?_)
            have hq := hq r5 I6 hpo
            exact hq.elim
          by_cases hc3 : x3 = (3 : Int32)
          · have hq := hq.2.2.2.1 hc3
            refine lv_tableIn (tgt := 88) hx hb dX5_pair_34 (by rw [hc3]; decide) (by rw [hc3]; decide) (by rw [hc3]; rfl) (by decide) ?_
            refine lv_aload_n hx hb dX5_pair_88 rfl (lv_at hl 0 rfl) ?_
            refine w_getr hX hK hH ck5 sh0 6 30 30 fr5_6 rfl q1_178 dX5_pair_89 ?_
            obtain ⟨hp, hq⟩ := hq
            refine w_cIp hH (w_rV (As := []) (rest := []) hX hK hE hH (c_X0_periodByRounds (sf5_6 sh0)  _ hp) ck0 (sf5_6 sh0) q2_194 q2_195 q2_196 q1_3 q2_197 hd_X0_periodByRounds ⟨Nat.le_of_ble_eq_true rfl, Nat.le_of_ble_eq_true rfl⟩ ⟨rfl, rfl⟩ rfl hl.1 rfl (Nat.le_of_ble_eq_true rfl) dX5_pair_92 ⟨Nat.zero_le _, Nat.zero_le _⟩) (fun r7  H locs hpo hH => ?_)
            have hq := hq r7  hpo
            exact hq.elim
          have hq := hq.2.2.2.2 ⟨hc0, hc1, hc2, hc3⟩
          have he0 := w_toInt_ne hc0
          have he1 := w_toInt_ne hc1
          have he2 := w_toInt_ne hc2
          have he3 := w_toInt_ne hc3
          refine lv_tableOut (tgt := 96) hx hb dX5_pair_34 (w_swOut0_3 hc0 hc1 hc2 hc3) (by decide) ?_
          refine lv_aload_n hx hb dX5_pair_96 rfl (lv_at hl 0 rfl) ?_
          refine w_getr hX hK hH ck5 sh0 6 30 30 fr5_6 rfl q1_178 dX5_pair_97 ?_
          obtain ⟨hp, hq⟩ := hq
          refine w_cIp hH (w_rV (As := []) (rest := []) hX hK hE hH (c_X0_reach (sf5_6 sh0)  _ hp) ck0 (sf5_6 sh0) q2_186 q2_187 q2_188 q1_3 q2_189 hd_X0_reach ⟨Nat.le_of_ble_eq_true rfl, Nat.le_of_ble_eq_true rfl⟩ ⟨rfl, rfl⟩ rfl hl.1 rfl (Nat.le_of_ble_eq_true rfl) dX5_pair_100 ⟨Nat.zero_le _, Nat.zero_le _⟩) (fun r8  H locs hpo hH => ?_)
          have hq := hq r8  hpo
          refine lv_if_ne (tgt := 110) hx hb dX5_pair_103 (by decide) (fun hc => ?_) (fun hc => ?_)
          · have hq := hq.1 hc
            refine lv_iconst (v := 0) hx hb dX5_pair_110 (by decide) ?_
            exact s_X5_pairx_111 hst hEx C0  (0 : Int32) _ _ _ _ hq hH (lv_sub hl [] rfl)
          · have hq := hq.2 hc
            refine lv_iconst (v := 1) hx hb dX5_pair_106 (by decide) ?_
            refine lv_goto (tgt := 111) hx hb dX5_pair_107 (by decide) ?_
            exact s_X5_pairx_111 hst hEx C0  (1 : Int32) _ _ _ _ hq hH (lv_sub hl [] rfl)
        · have hq := hq.2 hc
          exact s_X5_pairx_17 hst hEx C0   _ _ _ _ hq hH (lv_sub hl [] rfl)
    · have hq := hq.2 hok
      obtain ⟨hp, hq⟩ := hq
      exact w_xV hEx hlk hH (w_xrS (As := [.int x2]) (rest := []) hX hK hE hH (c_X5_requireKeyx hst  _ _ hp) q2_141 q2_142 q1_1 q2_143 hd_X5_requireKey.2 ⟨Nat.le_of_ble_eq_true rfl, Nat.le_of_ble_eq_true rfl⟩ ⟨rfl, rfl⟩ rfl hl.1 rfl (Nat.le_of_ble_eq_true rfl) dX5_pair_5 ⟨Nat.le_of_ble_eq_true rfl, Nat.le_of_ble_eq_true rfl⟩) (fun E u h => by obtain ⟨h1, h2⟩ := h; subst h1; exact hq E h2)
  · have hq := hq.2 hok
    obtain ⟨hp, hq⟩ := hq
    exact w_xV hEx hlk hH (w_xrS (As := [.int x1]) (rest := []) hX hK hE hH (c_X5_requireKeyx hst  _ _ hp) q2_141 q2_142 q1_1 q2_143 hd_X5_requireKey.2 ⟨Nat.le_of_ble_eq_true rfl, Nat.le_of_ble_eq_true rfl⟩ ⟨rfl, rfl⟩ rfl hl.1 rfl (Nat.le_of_ble_eq_true rfl) dX5_pair_1 ⟨Nat.le_of_ble_eq_true rfl, Nat.le_of_ble_eq_true rfl⟩) (fun E u h => by obtain ⟨h1, h2⟩ := h; subst h1; exact hq E h2)
abbrev rm_X5_count : Room := { frames := 8, cells := 0, slots := 0, locals := 120 }
theorem hd_X5_count : yX5_count.cls = RX5 ∧ yX5_count.cls ≠ "java/lang/invoke/MethodHandle" ∧ yX5_count.cls ≠ "java/lang/invoke/VarHandle" ∧ (parseMethodDescriptor yX5_count.desc).map (fun d => d.parameters.length) = some 1 := by decide +kernel
set_option maxRecDepth 100000 in
set_option maxHeartbeats 4000000 in
theorem s_X5_count_117 {x1 : Int32} {I : wI} {Q : Int32 → Prop} (C0 : wCx p m c s args meth cX5_count 2 RX5 (some .int) D cs ad b) : ∀ (t0 : Int32) (H : Heap) (locs : List Loc) (ls : Array Slot), v_X5_count_117 x1 I Q t0 → wH D cs b G I s H locs → lv_has ls 2 [] → W p l e rm_X5_count s m args below meth c H locs 0 0 (MQ below (va_Qi (fun r I' => I' = I ∧ Q r) (wPo D cs b G) (fun q => b ≤ q)) args s 0 0 (fun q => b ≤ q)) (F0 m 117 ls [.int t0]) := by
  obtain ⟨hX, hr, hlk, hK, hE⟩ := id C0
  have hx := hX.1
  have hb := hX.2.1
  have hown := hX.2.2.2.1
  have hts := hX.2.2.2.2
  intro t0 H locs ls hq hH hl
  unfold v_X5_count_117 at hq
  exact w_eI hX hr hlk hH ⟨rfl, hq⟩ dX5_count_117
set_option maxRecDepth 100000 in
set_option maxHeartbeats 4000000 in
theorem c_X5_count {l : Launch} {D : va_G} {cs : wC4} {ad : Nat → Nat} {b : Nat} {G : wG} (x1 : Int32) (I : wI) (hp : pre_X5_count x1 I) : Met l yX5_count (ws_ yX5_count cX5_count 2 (some .int)) rm_X5_count (va_Pc [.ref (G.1 0), .int x1] (wPr D cs ad b G I)) (va_Qi (fun r I' => I' = I ∧ post_X5_count x1 I r) (wPo D cs b G) (fun q => b ≤ q)) 0 0 (fun q => b ≤ q) := by
  have hq := vc_X5_count x1 I hp
  refine w_met (by decide) (Nat.le_of_ble_eq_true rfl) ?_
  intro p e s m below meth c hX hr hlk hK hE hH ls hl
  have C0 : wCx p m c s _ meth cX5_count 2 RX5 (some .int) D cs ad b := ⟨hX, hr, hlk, hK, hE⟩
  have hX : CallFix p m c cX5_count 2 s _ lw_all RX5 := hX
  have hx := hX.1
  have hb := hX.2.1
  have hown := hX.2.2.2.1
  have hts := hX.2.2.2.2
  have hl : lv_has ls 2 [(0, .ref (G.1 0)), (1, .int x1)] := hl
  unfold v_X5_count at hq
  refine lv_iload_n hx hb dX5_count_0 rfl (lv_at hl 1 rfl) ?_
  by_cases hc0 : x1 = (0 : Int32)
  · have hq := hq.1 hc0
    refine lv_tableIn (tgt := 56) hx hb dX5_count_1 (by rw [hc0]; decide) (by rw [hc0]; decide) (by rw [hc0]; rfl) (by decide) ?_
    refine lv_aload_n hx hb dX5_count_56 rfl (lv_at hl 0 rfl) ?_
    refine w_getr hX hK hH ck5 sh0 0 1 1 fr5_0 rfl q1_172 dX5_count_57 ?_
    refine w_getiN hX hK hE hH ck3 (sf5_0 sh0) 6 fi3_6 qn1_72 dX5_count_60 ?_
    exact w_eI hX hr hlk hH ⟨rfl, hq⟩ dX5_count_63
  by_cases hc1 : x1 = (1 : Int32)
  · have hq := hq.2.1 hc1
    refine lv_tableIn (tgt := 64) hx hb dX5_count_1 (by rw [hc1]; decide) (by rw [hc1]; decide) (by rw [hc1]; rfl) (by decide) ?_
    refine lv_aload_n hx hb dX5_count_64 rfl (lv_at hl 0 rfl) ?_
    refine w_getr hX hK hH ck5 sh0 0 1 1 fr5_0 rfl q1_172 dX5_count_65 ?_
    refine w_getrN hX hK hE hH ck3 (sf5_0 sh0) 0 1 2 fr3_0 rfl qn1_58 dX5_count_68 ?_
    obtain ⟨hp, hq⟩ := hq
    refine w_cIp hH (w_rV (As := []) (rest := []) hX hK hE hH (c_X0_notchSum (sf3_0 (sf5_0 sh0))  _ hp) ck0 (sf3_0 (sf5_0 sh0)) q3_0 q3_1 q3_2 q1_3 q3_3 hd_X0_notchSum ⟨Nat.le_of_ble_eq_true rfl, Nat.le_of_ble_eq_true rfl⟩ ⟨rfl, rfl⟩ rfl hl.1 rfl (Nat.le_of_ble_eq_true rfl) dX5_count_71 ⟨Nat.zero_le _, Nat.zero_le _⟩) (fun r1  H locs hpo hH => ?_)
    have hq := hq r1  hpo
    refine lv_iconst (v := 5) hx hb dX5_count_74 (by decide) ?_
    refine lv_irem hx hb dX5_count_75 (by decide) ?_
    exact w_eI hX hr hlk hH ⟨rfl, hq⟩ dX5_count_76
  by_cases hc2 : x1 = (2 : Int32)
  · have hq := hq.2.2.1 hc2
    refine lv_tableIn (tgt := 77) hx hb dX5_count_1 (by rw [hc2]; decide) (by rw [hc2]; decide) (by rw [hc2]; rfl) (by decide) ?_
    refine lv_aload_n hx hb dX5_count_77 rfl (lv_at hl 0 rfl) ?_
    refine w_getr hX hK hH ck5 sh0 0 1 1 fr5_0 rfl q1_172 dX5_count_78 ?_
    refine w_getiN hX hK hE hH ck3 (sf5_0 sh0) 7 fi3_7 qn1_74 dX5_count_81 ?_
    exact w_eI hX hr hlk hH ⟨rfl, hq⟩ dX5_count_84
  by_cases hc3 : x1 = (3 : Int32)
  · have hq := hq.2.2.2.1 hc3
    refine lv_tableIn (tgt := 85) hx hb dX5_count_1 (by rw [hc3]; decide) (by rw [hc3]; decide) (by rw [hc3]; rfl) (by decide) ?_
    refine lv_bipush (v := 6) hx hb dX5_count_85 (by decide) ?_
    refine lv_aload_n hx hb dX5_count_87 rfl (lv_at hl 0 rfl) ?_
    refine w_getr hX hK hH ck5 sh0 0 1 1 fr5_0 rfl q1_172 dX5_count_88 ?_
    refine w_getrN hX hK hE hH ck3 (sf5_0 sh0) 0 1 2 fr3_0 rfl qn1_58 dX5_count_91 ?_
    obtain ⟨hp, hq⟩ := hq
    refine w_cIp hH (w_rV (As := []) (rest := [.int (6 : Int32)]) hX hK hE hH (c_X0_reach (sf3_0 (sf5_0 sh0))  _ hp) ck0 (sf3_0 (sf5_0 sh0)) q2_186 q2_187 q2_188 q1_3 q2_189 hd_X0_reach ⟨Nat.le_of_ble_eq_true rfl, Nat.le_of_ble_eq_true rfl⟩ ⟨rfl, rfl⟩ rfl hl.1 rfl (Nat.le_of_ble_eq_true rfl) dX5_count_94 ⟨Nat.zero_le _, Nat.zero_le _⟩) (fun r2  H locs hpo hH => ?_)
    have hq := hq r2  hpo
    obtain ⟨hp, hq⟩ := hq
    refine w_cIp hH (w_rS (As := [.int r2]) (rest := [.int (6 : Int32)]) hX hK hE hH (c_J_bitCount  _ _ hp) q2_227 q2_228 q1_12 q2_229 hd_J_bitCount.2 ⟨Nat.le_of_ble_eq_true rfl, Nat.le_of_ble_eq_true rfl⟩ ⟨rfl, rfl⟩ rfl hl.1 rfl (Nat.le_of_ble_eq_true rfl) dX5_count_97 ⟨Nat.zero_le _, Nat.zero_le _⟩) (fun r3  H locs hpo hH => ?_)
    have hq := hq r3  hpo
    refine lv_isub hx hb dX5_count_100 ?_
    exact w_eI hX hr hlk hH ⟨rfl, hq⟩ dX5_count_101
  by_cases hc4 : x1 = (4 : Int32)
  · have hq := hq.2.2.2.2.1 hc4
    refine lv_tableIn (tgt := 102) hx hb dX5_count_1 (by rw [hc4]; decide) (by rw [hc4]; decide) (by rw [hc4]; rfl) (by decide) ?_
    refine lv_aload_n hx hb dX5_count_102 rfl (lv_at hl 0 rfl) ?_
    refine w_getr hX hK hH ck5 sh0 0 1 1 fr5_0 rfl q1_172 dX5_count_103 ?_
    obtain ⟨hp, hq⟩ := hq
    refine w_cIp hH (w_rV (As := []) (rest := []) hX hK hE hH (c_X3_opens (sf5_0 sh0)  _ hp) ck3 (sf5_0 sh0) q3_4 q3_5 q3_6 q1_2 q3_7 hd_X3_opens ⟨Nat.le_of_ble_eq_true rfl, Nat.le_of_ble_eq_true rfl⟩ ⟨rfl, rfl⟩ rfl hl.1 rfl (Nat.le_of_ble_eq_true rfl) dX5_count_106 ⟨Nat.zero_le _, Nat.zero_le _⟩) (fun r4  H locs hpo hH => ?_)
    have hq := hq r4  hpo
    refine lv_if_eq (tgt := 116) hx hb dX5_count_109 (by decide) (fun hc => ?_) (fun hc => ?_)
    · have hq := hq.1 hc
      refine lv_iconst (v := 0) hx hb dX5_count_116 (by decide) ?_
      exact s_X5_count_117  C0  (0 : Int32) _ _ _ hq hH (lv_sub hl [] rfl)
    · have hq := hq.2 hc
      refine lv_iconst (v := 1) hx hb dX5_count_112 (by decide) ?_
      refine lv_goto (tgt := 117) hx hb dX5_count_113 (by decide) ?_
      exact s_X5_count_117  C0  (1 : Int32) _ _ _ hq hH (lv_sub hl [] rfl)
  by_cases hc5 : x1 = (5 : Int32)
  · have hq := hq.2.2.2.2.2.1 hc5
    refine lv_tableIn (tgt := 118) hx hb dX5_count_1 (by rw [hc5]; decide) (by rw [hc5]; decide) (by rw [hc5]; rfl) (by decide) ?_
    refine lv_aload_n hx hb dX5_count_118 rfl (lv_at hl 0 rfl) ?_
    refine w_getr hX hK hH ck5 sh0 0 1 1 fr5_0 rfl q1_172 dX5_count_119 ?_
    refine lv_aload_n hx hb dX5_count_122 rfl (lv_at hl 0 rfl) ?_
    refine w_getr hX hK hH ck5 sh0 0 1 1 fr5_0 rfl q1_172 dX5_count_123 ?_
    refine w_getrN hX hK hE hH ck3 (sf5_0 sh0) 0 1 2 fr3_0 rfl qn1_58 dX5_count_126 ?_
    obtain ⟨hp, hq⟩ := hq
    refine w_cIp hH (w_rV (As := [.ref (G.1 2)]) (rest := []) hX hK hE hH (c_X3_asInSecret (sf5_0 sh0) (sf3_0 (sf5_0 sh0))  _ hp) ck3 (sf5_0 sh0) q3_16 q3_9 q3_10 q1_2 q3_11 hd_X3_asInSecret ⟨Nat.le_of_ble_eq_true rfl, Nat.le_of_ble_eq_true rfl⟩ ⟨rfl, rfl⟩ rfl hl.1 rfl (Nat.le_of_ble_eq_true rfl) dX5_count_129 ⟨Nat.zero_le _, Nat.zero_le _⟩) (fun r5  H locs hpo hH => ?_)
    have hq := hq r5  hpo
    exact w_eI hX hr hlk hH ⟨rfl, hq⟩ dX5_count_132
  by_cases hc6 : x1 = (6 : Int32)
  · have hq := hq.2.2.2.2.2.2.1 hc6
    refine lv_tableIn (tgt := 133) hx hb dX5_count_1 (by rw [hc6]; decide) (by rw [hc6]; decide) (by rw [hc6]; rfl) (by decide) ?_
    refine lv_aload_n hx hb dX5_count_133 rfl (lv_at hl 0 rfl) ?_
    refine w_getr hX hK hH ck5 sh0 0 1 1 fr5_0 rfl q1_172 dX5_count_134 ?_
    refine w_getiN hX hK hE hH ck3 (sf5_0 sh0) 4 fi3_4 qn1_69 dX5_count_137 ?_
    obtain ⟨hp, hq⟩ := hq
    refine w_cIp hH (w_rS (As := [.int (I 1 4)]) (rest := []) hX hK hE hH (c_J_bitCount  _ _ hp) q2_227 q2_228 q1_12 q2_229 hd_J_bitCount.2 ⟨Nat.le_of_ble_eq_true rfl, Nat.le_of_ble_eq_true rfl⟩ ⟨rfl, rfl⟩ rfl hl.1 rfl (Nat.le_of_ble_eq_true rfl) dX5_count_140 ⟨Nat.zero_le _, Nat.zero_le _⟩) (fun r6  H locs hpo hH => ?_)
    have hq := hq r6  hpo
    exact w_eI hX hr hlk hH ⟨rfl, hq⟩ dX5_count_143
  by_cases hc7 : x1 = (7 : Int32)
  · have hq := hq.2.2.2.2.2.2.2.1 hc7
    refine lv_tableIn (tgt := 144) hx hb dX5_count_1 (by rw [hc7]; decide) (by rw [hc7]; decide) (by rw [hc7]; rfl) (by decide) ?_
    refine lv_aload_n hx hb dX5_count_144 rfl (lv_at hl 0 rfl) ?_
    refine w_getr hX hK hH ck5 sh0 0 1 1 fr5_0 rfl q1_172 dX5_count_145 ?_
    obtain ⟨hp, hq⟩ := hq
    refine w_cIp hH (w_rV (As := []) (rest := []) hX hK hE hH (c_X3_stuckKeys (sf5_0 sh0)  _ hp) ck3 (sf5_0 sh0) q3_17 q3_18 q3_19 q1_2 q3_20 hd_X3_stuckKeys ⟨Nat.le_of_ble_eq_true rfl, Nat.le_of_ble_eq_true rfl⟩ ⟨rfl, rfl⟩ rfl hl.1 rfl (Nat.le_of_ble_eq_true rfl) dX5_count_148 ⟨Nat.zero_le _, Nat.zero_le _⟩) (fun r7  H locs hpo hH => ?_)
    have hq := hq r7  hpo
    exact w_eI hX hr hlk hH ⟨rfl, hq⟩ dX5_count_151
  by_cases hc8 : x1 = (8 : Int32)
  · have hq := hq.2.2.2.2.2.2.2.2.1 hc8
    refine lv_tableIn (tgt := 152) hx hb dX5_count_1 (by rw [hc8]; decide) (by rw [hc8]; decide) (by rw [hc8]; rfl) (by decide) ?_
    refine lv_aload_n hx hb dX5_count_152 rfl (lv_at hl 0 rfl) ?_
    refine w_getr hX hK hH ck5 sh0 0 1 1 fr5_0 rfl q1_172 dX5_count_153 ?_
    refine w_getiN hX hK hE hH ck3 (sf5_0 sh0) 8 fi3_8 qn1_76 dX5_count_156 ?_
    exact w_eI hX hr hlk hH ⟨rfl, hq⟩ dX5_count_159
  by_cases hc9 : x1 = (9 : Int32)
  · have hq := hq.2.2.2.2.2.2.2.2.2.1 hc9
    refine lv_tableIn (tgt := 160) hx hb dX5_count_1 (by rw [hc9]; decide) (by rw [hc9]; decide) (by rw [hc9]; rfl) (by decide) ?_
    refine lv_aload_n hx hb dX5_count_160 rfl (lv_at hl 0 rfl) ?_
    refine w_geti hX hK hH ck5 sh0 4 fi5_4 q1_176 dX5_count_161 ?_
    exact w_eI hX hr hlk hH ⟨rfl, hq⟩ dX5_count_164
  have hq := hq.2.2.2.2.2.2.2.2.2.2 ⟨hc0, hc1, hc2, hc3, hc4, hc5, hc6, hc7, hc8, hc9⟩
  have he0 := w_toInt_ne hc0
  have he1 := w_toInt_ne hc1
  have he2 := w_toInt_ne hc2
  have he3 := w_toInt_ne hc3
  have he4 := w_toInt_ne hc4
  have he5 := w_toInt_ne hc5
  have he6 := w_toInt_ne hc6
  have he7 := w_toInt_ne hc7
  have he8 := w_toInt_ne hc8
  have he9 := w_toInt_ne hc9
  refine lv_tableOut (tgt := 165) hx hb dX5_count_1 (w_swOut0_9 hc0 hc1 hc2 hc3 hc4 hc5 hc6 hc7 hc8 hc9) (by decide) ?_
  exact hq.elim
abbrev rm_X5_countx : Room := { frames := 8, cells := 1, slots := 6, locals := 120 }

set_option maxRecDepth 100000 in
set_option maxHeartbeats 4000000 in
theorem s_X5_countx_117 {x1 : Int32} {I : wI} {X : String → Prop} (hst : l.stackTraces = false) (hEx : ∀ x ∈ c.exceptionTable.toList, False) (C0 : wCx p m c s args meth cX5_count 2 RX5 (some .int) D cs ad b) : ∀ (t0 : Int32) (H : Heap) (locs : List Loc) (ls : Array Slot), v_X5_countx_117 x1 I X t0 → wH D cs b G I s H locs → lv_has ls 2 [] → W p l e rm_X5_countx s m args below meth c H locs 0 0 (vx_MQ below (va_Qi (fun (_ : Int32) (_ : wI) => False) (wPo D cs b G) (fun q => b ≤ q)) (wXC D cs b G (fun E I' => I' = I ∧ X E)) args s 1 6 (fun q => b ≤ q)) (F0 m 117 ls [.int t0]) := by
  obtain ⟨hX, hr, hlk, hK, hE⟩ := id C0
  have hx := hX.1
  have hb := hX.2.1
  have hown := hX.2.2.2.1
  have hts := hX.2.2.2.2
  intro t0 H locs ls hq hH hl
  unfold v_X5_countx_117 at hq
  exact hq.elim
set_option maxRecDepth 100000 in
set_option maxHeartbeats 4000000 in
theorem c_X5_countx {l : Launch} {D : va_G} {cs : wC4} {ad : Nat → Nat} {b : Nat} {G : wG} (hst : l.stackTraces = false) (x1 : Int32) (I : wI) (hp : pre_X5_countx x1 I) : vx_Met l yX5_count (ws_ yX5_count cX5_count 2 (some .int)) rm_X5_countx (va_Pc [.ref (G.1 0), .int x1] (wPr D cs ad b G I)) (va_Qi (fun (_ : Int32) (_ : wI) => False) (wPo D cs b G) (fun q => b ≤ q)) (wXC D cs b G (fun E I' => I' = I ∧ exc_X5_count x1 I E)) 1 6 (fun q => b ≤ q) := by
  have hq := vc_X5_countx x1 I hp
  refine w_metx (by decide) (Nat.le_of_ble_eq_true rfl) ?_
  intro p e s m below meth c hX hr hlk hEx hK hE hH ls hl
  have C0 : wCx p m c s _ meth cX5_count 2 RX5 (some .int) D cs ad b := ⟨hX, hr, hlk, hK, hE⟩
  have hX : CallFix p m c cX5_count 2 s _ lw_all RX5 := hX
  have hx := hX.1
  have hb := hX.2.1
  have hown := hX.2.2.2.1
  have hts := hX.2.2.2.2
  have hl : lv_has ls 2 [(0, .ref (G.1 0)), (1, .int x1)] := hl
  unfold v_X5_countx at hq
  refine lv_iload_n hx hb dX5_count_0 rfl (lv_at hl 1 rfl) ?_
  by_cases hc0 : x1 = (0 : Int32)
  · have hq := hq.1 hc0
    refine lv_tableIn (tgt := 56) hx hb dX5_count_1 (by rw [hc0]; decide) (by rw [hc0]; decide) (by rw [hc0]; rfl) (by decide) ?_
    refine lv_aload_n hx hb dX5_count_56 rfl (lv_at hl 0 rfl) ?_
    refine w_getr hX hK hH ck5 sh0 0 1 1 fr5_0 rfl q1_172 dX5_count_57 ?_
    refine w_getiN hX hK hE hH ck3 (sf5_0 sh0) 6 fi3_6 qn1_72 dX5_count_60 ?_
    exact hq.elim
  by_cases hc1 : x1 = (1 : Int32)
  · have hq := hq.2.1 hc1
    refine lv_tableIn (tgt := 64) hx hb dX5_count_1 (by rw [hc1]; decide) (by rw [hc1]; decide) (by rw [hc1]; rfl) (by decide) ?_
    refine lv_aload_n hx hb dX5_count_64 rfl (lv_at hl 0 rfl) ?_
    refine w_getr hX hK hH ck5 sh0 0 1 1 fr5_0 rfl q1_172 dX5_count_65 ?_
    refine w_getrN hX hK hE hH ck3 (sf5_0 sh0) 0 1 2 fr3_0 rfl qn1_58 dX5_count_68 ?_
    obtain ⟨hp, hq⟩ := hq
    refine w_cIp hH (w_rV (As := []) (rest := []) hX hK hE hH (c_X0_notchSum (sf3_0 (sf5_0 sh0))  _ hp) ck0 (sf3_0 (sf5_0 sh0)) q3_0 q3_1 q3_2 q1_3 q3_3 hd_X0_notchSum ⟨Nat.le_of_ble_eq_true rfl, Nat.le_of_ble_eq_true rfl⟩ ⟨rfl, rfl⟩ rfl hl.1 rfl (Nat.le_of_ble_eq_true rfl) dX5_count_71 ⟨Nat.zero_le _, Nat.zero_le _⟩) (fun r1  H locs hpo hH => ?_)
    have hq := hq r1  hpo
    refine lv_iconst (v := 5) hx hb dX5_count_74 (by decide) ?_
    refine lv_irem hx hb dX5_count_75 (by decide) ?_
    exact hq.elim
  by_cases hc2 : x1 = (2 : Int32)
  · have hq := hq.2.2.1 hc2
    refine lv_tableIn (tgt := 77) hx hb dX5_count_1 (by rw [hc2]; decide) (by rw [hc2]; decide) (by rw [hc2]; rfl) (by decide) ?_
    refine lv_aload_n hx hb dX5_count_77 rfl (lv_at hl 0 rfl) ?_
    refine w_getr hX hK hH ck5 sh0 0 1 1 fr5_0 rfl q1_172 dX5_count_78 ?_
    refine w_getiN hX hK hE hH ck3 (sf5_0 sh0) 7 fi3_7 qn1_74 dX5_count_81 ?_
    exact hq.elim
  by_cases hc3 : x1 = (3 : Int32)
  · have hq := hq.2.2.2.1 hc3
    refine lv_tableIn (tgt := 85) hx hb dX5_count_1 (by rw [hc3]; decide) (by rw [hc3]; decide) (by rw [hc3]; rfl) (by decide) ?_
    refine lv_bipush (v := 6) hx hb dX5_count_85 (by decide) ?_
    refine lv_aload_n hx hb dX5_count_87 rfl (lv_at hl 0 rfl) ?_
    refine w_getr hX hK hH ck5 sh0 0 1 1 fr5_0 rfl q1_172 dX5_count_88 ?_
    refine w_getrN hX hK hE hH ck3 (sf5_0 sh0) 0 1 2 fr3_0 rfl qn1_58 dX5_count_91 ?_
    obtain ⟨hp, hq⟩ := hq
    refine w_cIp hH (w_rV (As := []) (rest := [.int (6 : Int32)]) hX hK hE hH (c_X0_reach (sf3_0 (sf5_0 sh0))  _ hp) ck0 (sf3_0 (sf5_0 sh0)) q2_186 q2_187 q2_188 q1_3 q2_189 hd_X0_reach ⟨Nat.le_of_ble_eq_true rfl, Nat.le_of_ble_eq_true rfl⟩ ⟨rfl, rfl⟩ rfl hl.1 rfl (Nat.le_of_ble_eq_true rfl) dX5_count_94 ⟨Nat.zero_le _, Nat.zero_le _⟩) (fun r2  H locs hpo hH => ?_)
    have hq := hq r2  hpo
    obtain ⟨hp, hq⟩ := hq
    refine w_cIp hH (w_rS (As := [.int r2]) (rest := [.int (6 : Int32)]) hX hK hE hH (c_J_bitCount  _ _ hp) q2_227 q2_228 q1_12 q2_229 hd_J_bitCount.2 ⟨Nat.le_of_ble_eq_true rfl, Nat.le_of_ble_eq_true rfl⟩ ⟨rfl, rfl⟩ rfl hl.1 rfl (Nat.le_of_ble_eq_true rfl) dX5_count_97 ⟨Nat.zero_le _, Nat.zero_le _⟩) (fun r3  H locs hpo hH => ?_)
    have hq := hq r3  hpo
    refine lv_isub hx hb dX5_count_100 ?_
    exact hq.elim
  by_cases hc4 : x1 = (4 : Int32)
  · have hq := hq.2.2.2.2.1 hc4
    refine lv_tableIn (tgt := 102) hx hb dX5_count_1 (by rw [hc4]; decide) (by rw [hc4]; decide) (by rw [hc4]; rfl) (by decide) ?_
    refine lv_aload_n hx hb dX5_count_102 rfl (lv_at hl 0 rfl) ?_
    refine w_getr hX hK hH ck5 sh0 0 1 1 fr5_0 rfl q1_172 dX5_count_103 ?_
    obtain ⟨hp, hq⟩ := hq
    refine w_cIp hH (w_rV (As := []) (rest := []) hX hK hE hH (c_X3_opens (sf5_0 sh0)  _ hp) ck3 (sf5_0 sh0) q3_4 q3_5 q3_6 q1_2 q3_7 hd_X3_opens ⟨Nat.le_of_ble_eq_true rfl, Nat.le_of_ble_eq_true rfl⟩ ⟨rfl, rfl⟩ rfl hl.1 rfl (Nat.le_of_ble_eq_true rfl) dX5_count_106 ⟨Nat.zero_le _, Nat.zero_le _⟩) (fun r4  H locs hpo hH => ?_)
    have hq := hq r4  hpo
    refine lv_if_eq (tgt := 116) hx hb dX5_count_109 (by decide) (fun hc => ?_) (fun hc => ?_)
    · have hq := hq.1 hc
      refine lv_iconst (v := 0) hx hb dX5_count_116 (by decide) ?_
      exact s_X5_countx_117 hst hEx C0  (0 : Int32) _ _ _ hq hH (lv_sub hl [] rfl)
    · have hq := hq.2 hc
      refine lv_iconst (v := 1) hx hb dX5_count_112 (by decide) ?_
      refine lv_goto (tgt := 117) hx hb dX5_count_113 (by decide) ?_
      exact s_X5_countx_117 hst hEx C0  (1 : Int32) _ _ _ hq hH (lv_sub hl [] rfl)
  by_cases hc5 : x1 = (5 : Int32)
  · have hq := hq.2.2.2.2.2.1 hc5
    refine lv_tableIn (tgt := 118) hx hb dX5_count_1 (by rw [hc5]; decide) (by rw [hc5]; decide) (by rw [hc5]; rfl) (by decide) ?_
    refine lv_aload_n hx hb dX5_count_118 rfl (lv_at hl 0 rfl) ?_
    refine w_getr hX hK hH ck5 sh0 0 1 1 fr5_0 rfl q1_172 dX5_count_119 ?_
    refine lv_aload_n hx hb dX5_count_122 rfl (lv_at hl 0 rfl) ?_
    refine w_getr hX hK hH ck5 sh0 0 1 1 fr5_0 rfl q1_172 dX5_count_123 ?_
    refine w_getrN hX hK hE hH ck3 (sf5_0 sh0) 0 1 2 fr3_0 rfl qn1_58 dX5_count_126 ?_
    obtain ⟨hp, hq⟩ := hq
    refine w_cIp hH (w_rV (As := [.ref (G.1 2)]) (rest := []) hX hK hE hH (c_X3_asInSecret (sf5_0 sh0) (sf3_0 (sf5_0 sh0))  _ hp) ck3 (sf5_0 sh0) q3_16 q3_9 q3_10 q1_2 q3_11 hd_X3_asInSecret ⟨Nat.le_of_ble_eq_true rfl, Nat.le_of_ble_eq_true rfl⟩ ⟨rfl, rfl⟩ rfl hl.1 rfl (Nat.le_of_ble_eq_true rfl) dX5_count_129 ⟨Nat.zero_le _, Nat.zero_le _⟩) (fun r5  H locs hpo hH => ?_)
    have hq := hq r5  hpo
    exact hq.elim
  by_cases hc6 : x1 = (6 : Int32)
  · have hq := hq.2.2.2.2.2.2.1 hc6
    refine lv_tableIn (tgt := 133) hx hb dX5_count_1 (by rw [hc6]; decide) (by rw [hc6]; decide) (by rw [hc6]; rfl) (by decide) ?_
    refine lv_aload_n hx hb dX5_count_133 rfl (lv_at hl 0 rfl) ?_
    refine w_getr hX hK hH ck5 sh0 0 1 1 fr5_0 rfl q1_172 dX5_count_134 ?_
    refine w_getiN hX hK hE hH ck3 (sf5_0 sh0) 4 fi3_4 qn1_69 dX5_count_137 ?_
    obtain ⟨hp, hq⟩ := hq
    refine w_cIp hH (w_rS (As := [.int (I 1 4)]) (rest := []) hX hK hE hH (c_J_bitCount  _ _ hp) q2_227 q2_228 q1_12 q2_229 hd_J_bitCount.2 ⟨Nat.le_of_ble_eq_true rfl, Nat.le_of_ble_eq_true rfl⟩ ⟨rfl, rfl⟩ rfl hl.1 rfl (Nat.le_of_ble_eq_true rfl) dX5_count_140 ⟨Nat.zero_le _, Nat.zero_le _⟩) (fun r6  H locs hpo hH => ?_)
    have hq := hq r6  hpo
    exact hq.elim
  by_cases hc7 : x1 = (7 : Int32)
  · have hq := hq.2.2.2.2.2.2.2.1 hc7
    refine lv_tableIn (tgt := 144) hx hb dX5_count_1 (by rw [hc7]; decide) (by rw [hc7]; decide) (by rw [hc7]; rfl) (by decide) ?_
    refine lv_aload_n hx hb dX5_count_144 rfl (lv_at hl 0 rfl) ?_
    refine w_getr hX hK hH ck5 sh0 0 1 1 fr5_0 rfl q1_172 dX5_count_145 ?_
    obtain ⟨hp, hq⟩ := hq
    refine w_cIp hH (w_rV (As := []) (rest := []) hX hK hE hH (c_X3_stuckKeys (sf5_0 sh0)  _ hp) ck3 (sf5_0 sh0) q3_17 q3_18 q3_19 q1_2 q3_20 hd_X3_stuckKeys ⟨Nat.le_of_ble_eq_true rfl, Nat.le_of_ble_eq_true rfl⟩ ⟨rfl, rfl⟩ rfl hl.1 rfl (Nat.le_of_ble_eq_true rfl) dX5_count_148 ⟨Nat.zero_le _, Nat.zero_le _⟩) (fun r7  H locs hpo hH => ?_)
    have hq := hq r7  hpo
    exact hq.elim
  by_cases hc8 : x1 = (8 : Int32)
  · have hq := hq.2.2.2.2.2.2.2.2.1 hc8
    refine lv_tableIn (tgt := 152) hx hb dX5_count_1 (by rw [hc8]; decide) (by rw [hc8]; decide) (by rw [hc8]; rfl) (by decide) ?_
    refine lv_aload_n hx hb dX5_count_152 rfl (lv_at hl 0 rfl) ?_
    refine w_getr hX hK hH ck5 sh0 0 1 1 fr5_0 rfl q1_172 dX5_count_153 ?_
    refine w_getiN hX hK hE hH ck3 (sf5_0 sh0) 8 fi3_8 qn1_76 dX5_count_156 ?_
    exact hq.elim
  by_cases hc9 : x1 = (9 : Int32)
  · have hq := hq.2.2.2.2.2.2.2.2.2.1 hc9
    refine lv_tableIn (tgt := 160) hx hb dX5_count_1 (by rw [hc9]; decide) (by rw [hc9]; decide) (by rw [hc9]; rfl) (by decide) ?_
    refine lv_aload_n hx hb dX5_count_160 rfl (lv_at hl 0 rfl) ?_
    refine w_geti hX hK hH ck5 sh0 4 fi5_4 q1_176 dX5_count_161 ?_
    exact hq.elim
  have hq := hq.2.2.2.2.2.2.2.2.2.2 ⟨hc0, hc1, hc2, hc3, hc4, hc5, hc6, hc7, hc8, hc9⟩
  have he0 := w_toInt_ne hc0
  have he1 := w_toInt_ne hc1
  have he2 := w_toInt_ne hc2
  have he3 := w_toInt_ne hc3
  have he4 := w_toInt_ne hc4
  have he5 := w_toInt_ne hc5
  have he6 := w_toInt_ne hc6
  have he7 := w_toInt_ne hc7
  have he8 := w_toInt_ne hc8
  have he9 := w_toInt_ne hc9
  refine lv_tableOut (tgt := 165) hx hb dX5_count_1 (w_swOut0_9 hc0 hc1 hc2 hc3 hc4 hc5 hc6 hc7 hc8 hc9) (by decide) ?_
  exact w_throw th_X5_66_233_70 hX hst hlk hEx hE hH hl.1 dX5_count_165 dX5_count_168 dX5_count_169 dX5_count_171 dX5_count_174 ⟨Nat.le_of_ble_eq_true rfl, Nat.le_of_ble_eq_true rfl, Nat.le_of_ble_eq_true rfl, Nat.le_of_ble_eq_true rfl⟩ ⟨rfl, hq⟩
abbrev rm_X0_fingerprint : Room := { frames := 0, cells := 0, slots := 0, locals := 0 }
theorem hd_X0_fingerprint : yX0_fingerprint.cls = RX0 ∧ yX0_fingerprint.cls ≠ "java/lang/invoke/MethodHandle" ∧ yX0_fingerprint.cls ≠ "java/lang/invoke/VarHandle" ∧ (parseMethodDescriptor yX0_fingerprint.desc).map (fun d => d.parameters.length) = some 0 := by decide +kernel
set_option maxRecDepth 100000 in
set_option maxHeartbeats 4000000 in
theorem s_X0_fingerprint_4 {k : Nat} {I : wI} {Q : Int32 → Prop} (hs : wSh k = (0, 0)) (C0 : wCx p m c s args meth cX0_fingerprint 3 RX0 (some .int) D cs ad b) : ∀ (f : Nat) (v1 : Int32) (v2 : Int32) (H : Heap) (locs : List Loc) (ls : Array Slot), v_X0_fingerprint_4 k I Q f v1 v2 → wH D cs b G I s H locs → lv_has ls 3 [(0, .ref (G.1 k)), (1, .int v1), (2, .int v2)] → W p l e rm_X0_fingerprint s m args below meth c H locs 0 0 (MQ below (va_Qi (fun r I' => I' = I ∧ Q r) (wPo D cs b G) (fun q => b ≤ q)) args s 0 0 (fun q => b ≤ q)) (F0 m 4 ls []) := by
  obtain ⟨hX, hr, hlk, hK, hE⟩ := id C0
  have hx := hX.1
  have hb := hX.2.1
  have hown := hX.2.2.2.1
  have hts := hX.2.2.2.2
  intro f
  induction f with
  | zero =>
    intro v1 v2 H locs ls hq
    exact hq.elim
  | succ f hK4 =>
    intro v1 v2 H locs ls hq hH hl
    have hq : g_X0_fingerprint_4 k I Q (v_X0_fingerprint_4 k I Q f) v1 v2 := hq
    unfold g_X0_fingerprint_4 at hq
    refine lv_iload_n hx hb dX0_fingerprint_4 rfl (lv_at hl 2 rfl) ?_
    refine lv_bipush (v := 6) hx hb dX0_fingerprint_5 (by decide) ?_
    refine lv_icmp_ge (tgt := 37) hx hb dX0_fingerprint_7 (by decide) (fun hc => ?_) (fun hc => ?_)
    · have hq := hq.1 hc
      refine lv_iload_n hx hb dX0_fingerprint_37 rfl (lv_at hl 1 rfl) ?_
      exact w_eI hX hr hlk hH ⟨rfl, hq⟩ dX0_fingerprint_38
    · have hq := hq.2 hc
      refine lv_iload_n hx hb dX0_fingerprint_10 rfl (lv_at hl 1 rfl) ?_
      refine lv_bipush (v := 30) hx hb dX0_fingerprint_11 (by decide) ?_
      refine lv_imul hx hb dX0_fingerprint_13 ?_
      refine lv_aload_n hx hb dX0_fingerprint_14 rfl (lv_at hl 0 rfl) ?_
      refine w_getr hX hK hH ck0 hs 0 1 (k + 1) fr0_0 rfl q1_35 dX0_fingerprint_15 ?_
      refine lv_iload_n hx hb dX0_fingerprint_18 rfl (lv_at hl 2 rfl) ?_
      obtain ⟨hc, hq⟩ := hq
      refine w_iald hX hK hH (sf0_0 hs) hc dX0_fingerprint_19 ?_
      refine lv_iconst (v := 5) hx hb dX0_fingerprint_20 (by decide) ?_
      refine lv_imul hx hb dX0_fingerprint_21 ?_
      refine lv_iadd hx hb dX0_fingerprint_22 ?_
      refine lv_aload_n hx hb dX0_fingerprint_23 rfl (lv_at hl 0 rfl) ?_
      refine w_getr hX hK hH ck0 hs 1 2 (k + 2) fr0_1 rfl q1_36 dX0_fingerprint_24 ?_
      refine lv_iload_n hx hb dX0_fingerprint_27 rfl (lv_at hl 2 rfl) ?_
      obtain ⟨hc, hq⟩ := hq
      refine w_iald hX hK hH (sf0_1 hs) hc dX0_fingerprint_28 ?_
      refine lv_iadd hx hb dX0_fingerprint_29 ?_
      refine lv_istore_n (lv' := [(1, .int (((v1 * (30 : Int32)) + ((I (k + 1) (v2).toNatClampNeg) * (5 : Int32))) + (I (k + 2) (v2).toNatClampNeg))), (0, .ref (G.1 k)), (2, .int v2)]) hx hb dX0_fingerprint_30 rfl hl (by decide) rfl (fun ls hl => ?_)
      refine lv_iinc (v := (v2 + (1 : Int32))) (lv' := [(2, .int (v2 + (1 : Int32))), (1, .int (((v1 * (30 : Int32)) + ((I (k + 1) (v2).toNatClampNeg) * (5 : Int32))) + (I (k + 2) (v2).toNatClampNeg))), (0, .ref (G.1 k))]) hx hb dX0_fingerprint_31 hl (k := 2) rfl rfl (by decide) rfl (fun ls hl => ?_)
      refine lv_goto (tgt := 4) hx hb dX0_fingerprint_34 (by decide) ?_
      exact hK4 (((v1 * (30 : Int32)) + ((I (k + 1) (v2).toNatClampNeg) * (5 : Int32))) + (I (k + 2) (v2).toNatClampNeg)) (v2 + (1 : Int32)) _ _ _ hq hH (lv_sub hl [2, 1, 0] rfl)
set_option maxRecDepth 100000 in
set_option maxHeartbeats 4000000 in
theorem c_X0_fingerprint {l : Launch} {D : va_G} {cs : wC4} {ad : Nat → Nat} {b : Nat} {G : wG} {k : Nat} (hs : wSh k = (0, 0))  (I : wI) (hp : pre_X0_fingerprint k I) : Met l yX0_fingerprint (ws_ yX0_fingerprint cX0_fingerprint 3 (some .int)) rm_X0_fingerprint (va_Pc [.ref (G.1 k)] (wPr D cs ad b G I)) (va_Qi (fun r I' => I' = I ∧ post_X0_fingerprint k I r) (wPo D cs b G) (fun q => b ≤ q)) 0 0 (fun q => b ≤ q) := by
  have hq := vc_X0_fingerprint k I hp
  refine w_met (by decide) (Nat.le_of_ble_eq_true rfl) ?_
  intro p e s m below meth c hX hr hlk hK hE hH ls hl
  have C0 : wCx p m c s _ meth cX0_fingerprint 3 RX0 (some .int) D cs ad b := ⟨hX, hr, hlk, hK, hE⟩
  have hX : CallFix p m c cX0_fingerprint 3 s _ lw_all RX0 := hX
  have hx := hX.1
  have hb := hX.2.1
  have hown := hX.2.2.2.1
  have hts := hX.2.2.2.2
  have hl : lv_has ls 3 [(0, .ref (G.1 k))] := hl
  unfold v_X0_fingerprint at hq
  refine lv_iconst (v := 0) hx hb dX0_fingerprint_0 (by decide) ?_
  refine lv_istore_n (lv' := [(1, .int (0 : Int32)), (0, .ref (G.1 k))]) hx hb dX0_fingerprint_1 rfl hl (by decide) rfl (fun ls hl => ?_)
  refine lv_iconst (v := 0) hx hb dX0_fingerprint_2 (by decide) ?_
  refine lv_istore_n (lv' := [(2, .int (0 : Int32)), (1, .int (0 : Int32)), (0, .ref (G.1 k))]) hx hb dX0_fingerprint_3 rfl hl (by decide) rfl (fun ls hl => ?_)
  obtain ⟨f, hq⟩ := hq
  exact s_X0_fingerprint_4 hs C0  f (0 : Int32) (0 : Int32) _ _ _ hq hH (lv_sub hl [2, 1, 0] rfl)
abbrev rm_X2_list : Room := { frames := 1, cells := 0, slots := 0, locals := 22 }
theorem hd_X2_list : yX2_list.cls = RX2 ∧ yX2_list.cls ≠ "java/lang/invoke/MethodHandle" ∧ yX2_list.cls ≠ "java/lang/invoke/VarHandle" ∧ (parseMethodDescriptor yX2_list.desc).map (fun d => d.parameters.length) = some 2 := by decide +kernel
set_option maxRecDepth 100000 in
set_option maxHeartbeats 4000000 in
theorem s_X2_list_49 {k : Nat} {k1 : Nat} {x2 : Int32} {Q : wI → Prop} (hs : wSh k = (0, 2)) (hs1 : wSh k1 = (0, 0)) (C0 : wCx p m c s args meth cX2_list 3 RX2 none D cs ad b) : ∀  (I : wI) (H : Heap) (locs : List Loc) (ls : Array Slot), v_X2_list_49 k k1 x2 Q  I → wH D cs b G I s H locs → lv_has ls 3 [] → W p l e rm_X2_list s m args below meth c H locs 0 0 (MQ below (va_Qv (Q) (wPo D cs b G) (fun q => b ≤ q)) args s 0 0 (fun q => b ≤ q)) (F0 m 49 ls []) := by
  obtain ⟨hX, hr, hlk, hK, hE⟩ := id C0
  have hx := hX.1
  have hb := hX.2.1
  have hown := hX.2.2.2.1
  have hts := hX.2.2.2.2
  intro  I H locs ls hq hH hl
  unfold v_X2_list_49 at hq
  exact w_eV hX hr hlk hH hq dX2_list_49
set_option maxRecDepth 100000 in
set_option maxHeartbeats 4000000 in
theorem c_X2_list {l : Launch} {D : va_G} {cs : wC4} {ad : Nat → Nat} {b : Nat} {G : wG} {k : Nat} {k1 : Nat} (hs : wSh k = (0, 2)) (hs1 : wSh k1 = (0, 0)) (x2 : Int32) (I : wI) (hp : pre_X2_list k k1 x2 I) : Met l yX2_list (ws_ yX2_list cX2_list 3 none) rm_X2_list (va_Pc [.ref (G.1 k), .ref (G.1 k1), .int x2] (wPr D cs ad b G I)) (va_Qv (fun I' => post_X2_list k k1 x2 I I') (wPo D cs b G) (fun q => b ≤ q)) 0 0 (fun q => b ≤ q) := by
  have hq := vc_X2_list k k1 x2 I hp
  refine w_met (by decide) (Nat.le_of_ble_eq_true rfl) ?_
  intro p e s m below meth c hX hr hlk hK hE hH ls hl
  have C0 : wCx p m c s _ meth cX2_list 3 RX2 none D cs ad b := ⟨hX, hr, hlk, hK, hE⟩
  have hX : CallFix p m c cX2_list 3 s _ lw_all RX2 := hX
  have hx := hX.1
  have hb := hX.2.1
  have hown := hX.2.2.2.1
  have hts := hX.2.2.2.2
  have hl : lv_has ls 3 [(0, .ref (G.1 k)), (1, .ref (G.1 k1)), (2, .int x2)] := hl
  unfold v_X2_list at hq
  refine lv_aload_n hx hb dX2_list_0 rfl (lv_at hl 0 rfl) ?_
  refine w_geti hX hK hH ck2 hs 2 fi2_2 q1_150 dX2_list_1 ?_
  refine lv_if_lt (tgt := 49) hx hb dX2_list_4 (by decide) (fun hc => ?_) (fun hc => ?_)
  · have hq := hq.1 hc
    exact s_X2_list_49 hs hs1 C0   _ _ _ _ hq hH (lv_sub hl [] rfl)
  · have hq := hq.2 hc
    refine lv_aload_n hx hb dX2_list_7 rfl (lv_at hl 0 rfl) ?_
    refine w_geti hX hK hH ck2 hs 2 fi2_2 q1_150 dX2_list_8 ?_
    refine lv_bipush (v := 111) hx hb dX2_list_11 (by decide) ?_
    refine lv_icmp_ge (tgt := 49) hx hb dX2_list_13 (by decide) (fun hc => ?_) (fun hc => ?_)
    · have hq := hq.1 hc
      exact s_X2_list_49 hs hs1 C0   _ _ _ _ hq hH (lv_sub hl [] rfl)
    · have hq := hq.2 hc
      refine lv_aload_n hx hb dX2_list_16 rfl (lv_at hl 0 rfl) ?_
      refine w_getr hX hK hH ck2 hs 0 1 (k + 1) fr2_0 rfl q1_148 dX2_list_17 ?_
      refine lv_aload_n hx hb dX2_list_20 rfl (lv_at hl 0 rfl) ?_
      refine w_geti hX hK hH ck2 hs 2 fi2_2 q1_150 dX2_list_21 ?_
      refine lv_aload_n hx hb dX2_list_24 rfl (lv_at hl 1 rfl) ?_
      obtain ⟨hp, hq⟩ := hq
      refine w_cIp hH (w_rV (As := []) (rest := [.int (I k 2), .ref (G.1 (k + 1))]) hX hK hE hH (c_X0_fingerprint hs1  _ hp) ck0 hs1 q3_44 q3_45 q3_46 q1_3 q3_47 hd_X0_fingerprint ⟨Nat.le_of_ble_eq_true rfl, Nat.le_of_ble_eq_true rfl⟩ ⟨rfl, rfl⟩ rfl hl.1 rfl (Nat.le_of_ble_eq_true rfl) dX2_list_25 ⟨Nat.zero_le _, Nat.zero_le _⟩) (fun r1  H locs hpo hH => ?_)
      have hq := hq r1  hpo
      obtain ⟨hc, hq⟩ := hq
      refine w_iast hX hK hH (sf2_0 hs) hc dX2_list_28 (fun I2 H locs hI hH => ?_)
      have hq := hq I2 hI
      refine lv_aload_n hx hb dX2_list_29 rfl (lv_at hl 0 rfl) ?_
      refine w_getr hX hK hH ck2 hs 1 2 (k + 2) fr2_1 rfl q1_149 dX2_list_30 ?_
      refine lv_aload_n hx hb dX2_list_33 rfl (lv_at hl 0 rfl) ?_
      refine w_geti hX hK hH ck2 hs 2 fi2_2 q1_150 dX2_list_34 ?_
      refine lv_iload_n hx hb dX2_list_37 rfl (lv_at hl 2 rfl) ?_
      obtain ⟨hc, hq⟩ := hq
      refine w_iast hX hK hH (sf2_1 hs) hc dX2_list_38 (fun I3 H locs hI hH => ?_)
      have hq := hq I3 hI
      refine lv_aload_n hx hb dX2_list_39 rfl (lv_at hl 0 rfl) ?_
      refine lv_dup hx hb dX2_list_40 rfl ?_
      refine w_geti hX hK hH ck2 hs 2 fi2_2 q1_150 dX2_list_41 ?_
      refine lv_iconst (v := 1) hx hb dX2_list_44 (by decide) ?_
      refine lv_iadd hx hb dX2_list_45 ?_
      refine w_puti hX hK hH ck2 hs 2 fw2_2 q1_150 dX2_list_46 (fun I4 H locs hI hH => ?_)
      have hq := hq I4 hI
      exact s_X2_list_49 hs hs1 C0   _ _ _ _ hq hH (lv_sub hl [] rfl)
abbrev rm_X2_listBehindOne : Room := { frames := 2, cells := 0, slots := 0, locals := 54 }
theorem hd_X2_listBehindOne : yX2_listBehindOne.cls = RX2 ∧ yX2_listBehindOne.cls ≠ "java/lang/invoke/MethodHandle" ∧ yX2_listBehindOne.cls ≠ "java/lang/invoke/VarHandle" ∧ (parseMethodDescriptor yX2_listBehindOne.desc).map (fun d => d.parameters.length) = some 1 := by decide +kernel
set_option maxRecDepth 100000 in
set_option maxHeartbeats 4000000 in
theorem s_X2_listBehindOne_48 {k : Nat} {k1 : Nat} {Q : wI → Prop} {K2 : Int32 → wI → Prop} (hs : wSh k = (0, 2)) (hs1 : wSh k1 = (0, 3)) (C0 : wCx p m c s args meth cX2_listBehindOne 3 RX2 none D cs ad b) (hK2 : ∀ (v2 : Int32) (I : wI) (H : Heap) (locs : List Loc) (ls : Array Slot), K2 v2 I → wH D cs b G I s H locs → lv_has ls 3 [(0, .ref (G.1 k)), (1, .ref (G.1 k1)), (2, .int v2)] → W p l e rm_X2_listBehindOne s m args below meth c H locs 0 0 (MQ below (va_Qv (Q) (wPo D cs b G) (fun q => b ≤ q)) args s 0 0 (fun q => b ≤ q)) (F0 m 2 ls [])) : ∀ (v2 : Int32) (I : wI) (H : Heap) (locs : List Loc) (ls : Array Slot), v_X2_listBehindOne_48 k k1 Q K2 v2 I → wH D cs b G I s H locs → lv_has ls 3 [(0, .ref (G.1 k)), (1, .ref (G.1 k1)), (2, .int v2)] → W p l e rm_X2_listBehindOne s m args below meth c H locs 0 0 (MQ below (va_Qv (Q) (wPo D cs b G) (fun q => b ≤ q)) args s 0 0 (fun q => b ≤ q)) (F0 m 48 ls []) := by
  obtain ⟨hX, hr, hlk, hK, hE⟩ := id C0
  have hx := hX.1
  have hb := hX.2.1
  have hown := hX.2.2.2.1
  have hts := hX.2.2.2.2
  intro v2 I H locs ls hq hH hl
  unfold v_X2_listBehindOne_48 at hq
  refine lv_iinc (v := (v2 + (1 : Int32))) (lv' := [(2, .int (v2 + (1 : Int32))), (0, .ref (G.1 k)), (1, .ref (G.1 k1))]) hx hb dX2_listBehindOne_48 hl (k := 2) rfl rfl (by decide) rfl (fun ls hl => ?_)
  refine lv_goto (tgt := 2) hx hb dX2_listBehindOne_51 (by decide) ?_
  exact hK2 (v2 + (1 : Int32)) _ _ _ _ hq hH (lv_sub hl [1, 2, 0] rfl)
set_option maxRecDepth 100000 in
set_option maxHeartbeats 4000000 in
theorem s_X2_listBehindOne_2 {k : Nat} {k1 : Nat} {Q : wI → Prop} (hs : wSh k = (0, 2)) (hs1 : wSh k1 = (0, 3)) (C0 : wCx p m c s args meth cX2_listBehindOne 3 RX2 none D cs ad b) : ∀ (f : Nat) (v2 : Int32) (I : wI) (H : Heap) (locs : List Loc) (ls : Array Slot), v_X2_listBehindOne_2 k k1 Q f v2 I → wH D cs b G I s H locs → lv_has ls 3 [(0, .ref (G.1 k)), (1, .ref (G.1 k1)), (2, .int v2)] → W p l e rm_X2_listBehindOne s m args below meth c H locs 0 0 (MQ below (va_Qv (Q) (wPo D cs b G) (fun q => b ≤ q)) args s 0 0 (fun q => b ≤ q)) (F0 m 2 ls []) := by
  obtain ⟨hX, hr, hlk, hK, hE⟩ := id C0
  have hx := hX.1
  have hb := hX.2.1
  have hown := hX.2.2.2.1
  have hts := hX.2.2.2.2
  intro f
  induction f with
  | zero =>
    intro v2 I H locs ls hq
    exact hq.elim
  | succ f hK2 =>
    intro v2 I H locs ls hq hH hl
    have hq : g_X2_listBehindOne_2 k k1 Q (v_X2_listBehindOne_2 k k1 Q f) v2 I := hq
    unfold g_X2_listBehindOne_2 at hq
    refine lv_iload_n hx hb dX2_listBehindOne_2 rfl (lv_at hl 2 rfl) ?_
    refine lv_bipush (v := 10) hx hb dX2_listBehindOne_3 (by decide) ?_
    refine lv_icmp_ge (tgt := 54) hx hb dX2_listBehindOne_5 (by decide) (fun hc => ?_) (fun hc => ?_)
    · have hq := hq.1 hc
      exact w_eV hX hr hlk hH hq dX2_listBehindOne_54
    · have hq := hq.2 hc
      refine lv_aload_n hx hb dX2_listBehindOne_8 rfl (lv_at hl 1 rfl) ?_
      refine lv_iload_n hx hb dX2_listBehindOne_9 rfl (lv_at hl 2 rfl) ?_
      obtain ⟨hp, hq⟩ := hq
      refine w_cIp hH (w_rV (As := [.int v2]) (rest := []) hX hK hE hH (c_X3_allows hs1 _ _ hp) ck3 hs1 q3_48 q2_206 q2_207 q1_2 q2_208 hd_X3_allows ⟨Nat.le_of_ble_eq_true rfl, Nat.le_of_ble_eq_true rfl⟩ ⟨rfl, rfl⟩ rfl hl.1 rfl (Nat.le_of_ble_eq_true rfl) dX2_listBehindOne_10 ⟨Nat.zero_le _, Nat.zero_le _⟩) (fun r1  H locs hpo hH => ?_)
      have hq := hq r1  hpo
      refine lv_if_eq (tgt := 48) hx hb dX2_listBehindOne_13 (by decide) (fun hc => ?_) (fun hc => ?_)
      · have hq := hq.1 hc
        exact s_X2_listBehindOne_48 hs hs1 C0 hK2 v2 _ _ _ _ hq hH (lv_sub hl [0, 1, 2] rfl)
      · have hq := hq.2 hc
        refine lv_aload_n hx hb dX2_listBehindOne_16 rfl (lv_at hl 0 rfl) ?_
        refine w_getr hX hK hH ck2 hs 4 6 (k + 6) fr2_4 rfl q1_152 dX2_listBehindOne_17 ?_
        refine lv_aload_n hx hb dX2_listBehindOne_20 rfl (lv_at hl 0 rfl) ?_
        refine w_getr hX hK hH ck2 hs 3 3 (k + 3) fr2_3 rfl q1_151 dX2_listBehindOne_21 ?_
        obtain ⟨hp, hq⟩ := hq
        refine w_cV hH (w_rV (As := [.ref (G.1 (k + 3))]) (rest := []) hX hK hE hH (c_X0_copyFrom (sf2_4 hs) (sf2_3 hs)  _ hp) ck0 (sf2_4 hs) q3_49 q2_45 q2_46 q1_3 q2_47 hd_X0_copyFrom ⟨Nat.le_of_ble_eq_true rfl, Nat.le_of_ble_eq_true rfl⟩ ⟨rfl, rfl⟩ rfl hl.1 rfl (Nat.le_of_ble_eq_true rfl) dX2_listBehindOne_24 ⟨Nat.zero_le _, Nat.zero_le _⟩) (fun  I2 H locs hpo hH => ?_)
        have hq := hq  I2 hpo
        refine lv_aload_n hx hb dX2_listBehindOne_27 rfl (lv_at hl 1 rfl) ?_
        refine w_getrN hX hK hE hH ck3 hs1 1 4 (k1 + 4) fr3_1 rfl qn1_60 dX2_listBehindOne_28 ?_
        refine lv_aload_n hx hb dX2_listBehindOne_31 rfl (lv_at hl 0 rfl) ?_
        refine w_getr hX hK hH ck2 hs 4 6 (k + 6) fr2_4 rfl q1_152 dX2_listBehindOne_32 ?_
        refine lv_iload_n hx hb dX2_listBehindOne_35 rfl (lv_at hl 2 rfl) ?_
        obtain ⟨hp, hq⟩ := hq
        refine w_cV hH (w_rV (As := [.ref (G.1 (k + 6)), .int v2]) (rest := []) hX hK hE hH (c_X1_move (sf3_1 hs1) (sf2_4 hs) _ _ hp) ck1 (sf3_1 hs1) q3_50 q2_165 q2_166 q1_4 q2_167 hd_X1_move ⟨Nat.le_of_ble_eq_true rfl, Nat.le_of_ble_eq_true rfl⟩ ⟨rfl, rfl⟩ rfl hl.1 rfl (Nat.le_of_ble_eq_true rfl) dX2_listBehindOne_36 ⟨Nat.zero_le _, Nat.zero_le _⟩) (fun  I3 H locs hpo hH => ?_)
        have hq := hq  I3 hpo
        refine lv_aload_n hx hb dX2_listBehindOne_39 rfl (lv_at hl 0 rfl) ?_
        refine lv_aload_n hx hb dX2_listBehindOne_40 rfl (lv_at hl 0 rfl) ?_
        refine w_getr hX hK hH ck2 hs 4 6 (k + 6) fr2_4 rfl q1_152 dX2_listBehindOne_41 ?_
        refine lv_iconst (v := 2) hx hb dX2_listBehindOne_44 (by decide) ?_
        obtain ⟨hp, hq⟩ := hq
        refine w_cV hH (w_rV (As := [.ref (G.1 (k + 6)), .int (2 : Int32)]) (rest := []) hX hK hE hH (c_X2_list hs (sf2_4 hs) _ _ hp) ck2 hs q3_40 q3_42 qs9 q1_6 q3_43 hd_X2_list ⟨Nat.le_of_ble_eq_true rfl, Nat.le_of_ble_eq_true rfl⟩ ⟨rfl, rfl⟩ rfl hl.1 rfl (Nat.le_of_ble_eq_true rfl) dX2_listBehindOne_45 ⟨Nat.zero_le _, Nat.zero_le _⟩) (fun  I4 H locs hpo hH => ?_)
        have hq := hq  I4 hpo
        exact s_X2_listBehindOne_48 hs hs1 C0 hK2 v2 _ _ _ _ hq hH (lv_sub hl [0, 1, 2] rfl)
set_option maxRecDepth 100000 in
set_option maxHeartbeats 4000000 in
theorem c_X2_listBehindOne {l : Launch} {D : va_G} {cs : wC4} {ad : Nat → Nat} {b : Nat} {G : wG} {k : Nat} {k1 : Nat} (hs : wSh k = (0, 2)) (hs1 : wSh k1 = (0, 3))  (I : wI) (hp : pre_X2_listBehindOne k k1 I) : Met l yX2_listBehindOne (ws_ yX2_listBehindOne cX2_listBehindOne 3 none) rm_X2_listBehindOne (va_Pc [.ref (G.1 k), .ref (G.1 k1)] (wPr D cs ad b G I)) (va_Qv (fun I' => post_X2_listBehindOne k k1 I I') (wPo D cs b G) (fun q => b ≤ q)) 0 0 (fun q => b ≤ q) := by
  have hq := vc_X2_listBehindOne k k1 I hp
  refine w_met (by decide) (Nat.le_of_ble_eq_true rfl) ?_
  intro p e s m below meth c hX hr hlk hK hE hH ls hl
  have C0 : wCx p m c s _ meth cX2_listBehindOne 3 RX2 none D cs ad b := ⟨hX, hr, hlk, hK, hE⟩
  have hX : CallFix p m c cX2_listBehindOne 3 s _ lw_all RX2 := hX
  have hx := hX.1
  have hb := hX.2.1
  have hown := hX.2.2.2.1
  have hts := hX.2.2.2.2
  have hl : lv_has ls 3 [(0, .ref (G.1 k)), (1, .ref (G.1 k1))] := hl
  unfold v_X2_listBehindOne at hq
  refine lv_iconst (v := 0) hx hb dX2_listBehindOne_0 (by decide) ?_
  refine lv_istore_n (lv' := [(2, .int (0 : Int32)), (0, .ref (G.1 k)), (1, .ref (G.1 k1))]) hx hb dX2_listBehindOne_1 rfl hl (by decide) rfl (fun ls hl => ?_)
  obtain ⟨f, hq⟩ := hq
  exact s_X2_listBehindOne_2 hs hs1 C0  f (0 : Int32) _ _ _ _ hq hH (lv_sub hl [1, 2, 0] rfl)
abbrev rm_X2_listNear : Room := { frames := 3, cells := 0, slots := 0, locals := 76 }
theorem hd_X2_listNear : yX2_listNear.cls = RX2 ∧ yX2_listNear.cls ≠ "java/lang/invoke/MethodHandle" ∧ yX2_listNear.cls ≠ "java/lang/invoke/VarHandle" ∧ (parseMethodDescriptor yX2_listNear.desc).map (fun d => d.parameters.length) = some 1 := by decide +kernel
set_option maxRecDepth 100000 in
set_option maxHeartbeats 4000000 in
theorem s_X2_listNear_112 {k : Nat} {k1 : Nat} {Q : wI → Prop} {K70 : Int32 → wI → Prop} (hs : wSh k = (0, 2)) (hs1 : wSh k1 = (0, 3)) (C0 : wCx p m c s args meth cX2_listNear 3 RX2 none D cs ad b) (hK70 : ∀ (v2 : Int32) (I : wI) (H : Heap) (locs : List Loc) (ls : Array Slot), K70 v2 I → wH D cs b G I s H locs → lv_has ls 3 [(0, .ref (G.1 k)), (1, .ref (G.1 k1)), (2, .int v2)] → W p l e rm_X2_listNear s m args below meth c H locs 0 0 (MQ below (va_Qv (Q) (wPo D cs b G) (fun q => b ≤ q)) args s 0 0 (fun q => b ≤ q)) (F0 m 70 ls [])) : ∀ (v2 : Int32) (I : wI) (H : Heap) (locs : List Loc) (ls : Array Slot), v_X2_listNear_112 k k1 Q K70 v2 I → wH D cs b G I s H locs → lv_has ls 3 [(0, .ref (G.1 k)), (1, .ref (G.1 k1)), (2, .int v2)] → W p l e rm_X2_listNear s m args below meth c H locs 0 0 (MQ below (va_Qv (Q) (wPo D cs b G) (fun q => b ≤ q)) args s 0 0 (fun q => b ≤ q)) (F0 m 112 ls []) := by
  obtain ⟨hX, hr, hlk, hK, hE⟩ := id C0
  have hx := hX.1
  have hb := hX.2.1
  have hown := hX.2.2.2.1
  have hts := hX.2.2.2.2
  intro v2 I H locs ls hq hH hl
  unfold v_X2_listNear_112 at hq
  refine lv_iinc (v := (v2 + (1 : Int32))) (lv' := [(2, .int (v2 + (1 : Int32))), (0, .ref (G.1 k)), (1, .ref (G.1 k1))]) hx hb dX2_listNear_112 hl (k := 2) rfl rfl (by decide) rfl (fun ls hl => ?_)
  refine lv_goto (tgt := 70) hx hb dX2_listNear_115 (by decide) ?_
  exact hK70 (v2 + (1 : Int32)) _ _ _ _ hq hH (lv_sub hl [1, 2, 0] rfl)
set_option maxRecDepth 100000 in
set_option maxHeartbeats 4000000 in
theorem s_X2_listNear_70 {k : Nat} {k1 : Nat} {Q : wI → Prop} (hs : wSh k = (0, 2)) (hs1 : wSh k1 = (0, 3)) (C0 : wCx p m c s args meth cX2_listNear 3 RX2 none D cs ad b) : ∀ (f : Nat) (v2 : Int32) (I : wI) (H : Heap) (locs : List Loc) (ls : Array Slot), v_X2_listNear_70 k k1 Q f v2 I → wH D cs b G I s H locs → lv_has ls 3 [(0, .ref (G.1 k)), (1, .ref (G.1 k1)), (2, .int v2)] → W p l e rm_X2_listNear s m args below meth c H locs 0 0 (MQ below (va_Qv (Q) (wPo D cs b G) (fun q => b ≤ q)) args s 0 0 (fun q => b ≤ q)) (F0 m 70 ls []) := by
  obtain ⟨hX, hr, hlk, hK, hE⟩ := id C0
  have hx := hX.1
  have hb := hX.2.1
  have hown := hX.2.2.2.1
  have hts := hX.2.2.2.2
  intro f
  induction f with
  | zero =>
    intro v2 I H locs ls hq
    exact hq.elim
  | succ f hK70 =>
    intro v2 I H locs ls hq hH hl
    have hq : g_X2_listNear_70 k k1 Q (v_X2_listNear_70 k k1 Q f) v2 I := hq
    unfold g_X2_listNear_70 at hq
    refine lv_iload_n hx hb dX2_listNear_70 rfl (lv_at hl 2 rfl) ?_
    refine lv_bipush (v := 10) hx hb dX2_listNear_71 (by decide) ?_
    refine lv_icmp_ge (tgt := 118) hx hb dX2_listNear_73 (by decide) (fun hc => ?_) (fun hc => ?_)
    · have hq := hq.1 hc
      exact w_eV hX hr hlk hH hq dX2_listNear_118
    · have hq := hq.2 hc
      refine lv_aload_n hx hb dX2_listNear_76 rfl (lv_at hl 1 rfl) ?_
      refine lv_iload_n hx hb dX2_listNear_77 rfl (lv_at hl 2 rfl) ?_
      obtain ⟨hp, hq⟩ := hq
      refine w_cIp hH (w_rV (As := [.int v2]) (rest := []) hX hK hE hH (c_X3_allows hs1 _ _ hp) ck3 hs1 q3_48 q2_206 q2_207 q1_2 q2_208 hd_X3_allows ⟨Nat.le_of_ble_eq_true rfl, Nat.le_of_ble_eq_true rfl⟩ ⟨rfl, rfl⟩ rfl hl.1 rfl (Nat.le_of_ble_eq_true rfl) dX2_listNear_78 ⟨Nat.zero_le _, Nat.zero_le _⟩) (fun r1  H locs hpo hH => ?_)
      have hq := hq r1  hpo
      refine lv_if_eq (tgt := 112) hx hb dX2_listNear_81 (by decide) (fun hc => ?_) (fun hc => ?_)
      · have hq := hq.1 hc
        exact s_X2_listNear_112 hs hs1 C0 hK70 v2 _ _ _ _ hq hH (lv_sub hl [0, 1, 2] rfl)
      · have hq := hq.2 hc
        refine lv_aload_n hx hb dX2_listNear_84 rfl (lv_at hl 0 rfl) ?_
        refine w_getr hX hK hH ck2 hs 3 3 (k + 3) fr2_3 rfl q1_151 dX2_listNear_85 ?_
        refine lv_aload_n hx hb dX2_listNear_88 rfl (lv_at hl 1 rfl) ?_
        refine w_getrN hX hK hE hH ck3 hs1 2 7 (k1 + 7) fr3_2 rfl qn1_63 dX2_listNear_89 ?_
        obtain ⟨hp, hq⟩ := hq
        refine w_cV hH (w_rV (As := [.ref (G.1 (k1 + 7))]) (rest := []) hX hK hE hH (c_X0_copyFrom (sf2_3 hs) (sf3_2 hs1)  _ hp) ck0 (sf2_3 hs) q3_49 q2_45 q2_46 q1_3 q2_47 hd_X0_copyFrom ⟨Nat.le_of_ble_eq_true rfl, Nat.le_of_ble_eq_true rfl⟩ ⟨rfl, rfl⟩ rfl hl.1 rfl (Nat.le_of_ble_eq_true rfl) dX2_listNear_92 ⟨Nat.zero_le _, Nat.zero_le _⟩) (fun  I2 H locs hpo hH => ?_)
        have hq := hq  I2 hpo
        refine lv_aload_n hx hb dX2_listNear_95 rfl (lv_at hl 1 rfl) ?_
        refine w_getrN hX hK hE hH ck3 hs1 1 4 (k1 + 4) fr3_1 rfl qn1_60 dX2_listNear_96 ?_
        refine lv_aload_n hx hb dX2_listNear_99 rfl (lv_at hl 0 rfl) ?_
        refine w_getr hX hK hH ck2 hs 3 3 (k + 3) fr2_3 rfl q1_151 dX2_listNear_100 ?_
        refine lv_iload_n hx hb dX2_listNear_103 rfl (lv_at hl 2 rfl) ?_
        obtain ⟨hp, hq⟩ := hq
        refine w_cV hH (w_rV (As := [.ref (G.1 (k + 3)), .int v2]) (rest := []) hX hK hE hH (c_X1_move (sf3_1 hs1) (sf2_3 hs) _ _ hp) ck1 (sf3_1 hs1) q3_50 q2_165 q2_166 q1_4 q2_167 hd_X1_move ⟨Nat.le_of_ble_eq_true rfl, Nat.le_of_ble_eq_true rfl⟩ ⟨rfl, rfl⟩ rfl hl.1 rfl (Nat.le_of_ble_eq_true rfl) dX2_listNear_104 ⟨Nat.zero_le _, Nat.zero_le _⟩) (fun  I3 H locs hpo hH => ?_)
        have hq := hq  I3 hpo
        refine lv_aload_n hx hb dX2_listNear_107 rfl (lv_at hl 0 rfl) ?_
        refine lv_aload_n hx hb dX2_listNear_108 rfl (lv_at hl 1 rfl) ?_
        obtain ⟨hp, hq⟩ := hq
        refine w_cV hH (w_rV (As := [.ref (G.1 k1)]) (rest := []) hX hK hE hH (c_X2_listBehindOne hs hs1  _ hp) ck2 hs q3_51 q3_53 qs10 q1_6 q3_54 hd_X2_listBehindOne ⟨Nat.le_of_ble_eq_true rfl, Nat.le_of_ble_eq_true rfl⟩ ⟨rfl, rfl⟩ rfl hl.1 rfl (Nat.le_of_ble_eq_true rfl) dX2_listNear_109 ⟨Nat.zero_le _, Nat.zero_le _⟩) (fun  I4 H locs hpo hH => ?_)
        have hq := hq  I4 hpo
        exact s_X2_listNear_112 hs hs1 C0 hK70 v2 _ _ _ _ hq hH (lv_sub hl [0, 1, 2] rfl)
set_option maxRecDepth 100000 in
set_option maxHeartbeats 4000000 in
theorem s_X2_listNear_62 {k : Nat} {k1 : Nat} {Q : wI → Prop} {K16 : Int32 → wI → Prop} (hs : wSh k = (0, 2)) (hs1 : wSh k1 = (0, 3)) (C0 : wCx p m c s args meth cX2_listNear 3 RX2 none D cs ad b) (hK16 : ∀ (v2 : Int32) (I : wI) (H : Heap) (locs : List Loc) (ls : Array Slot), K16 v2 I → wH D cs b G I s H locs → lv_has ls 3 [(0, .ref (G.1 k)), (1, .ref (G.1 k1)), (2, .int v2)] → W p l e rm_X2_listNear s m args below meth c H locs 0 0 (MQ below (va_Qv (Q) (wPo D cs b G) (fun q => b ≤ q)) args s 0 0 (fun q => b ≤ q)) (F0 m 16 ls [])) : ∀ (v2 : Int32) (I : wI) (H : Heap) (locs : List Loc) (ls : Array Slot), v_X2_listNear_62 k k1 Q K16 v2 I → wH D cs b G I s H locs → lv_has ls 3 [(0, .ref (G.1 k)), (1, .ref (G.1 k1)), (2, .int v2)] → W p l e rm_X2_listNear s m args below meth c H locs 0 0 (MQ below (va_Qv (Q) (wPo D cs b G) (fun q => b ≤ q)) args s 0 0 (fun q => b ≤ q)) (F0 m 62 ls []) := by
  obtain ⟨hX, hr, hlk, hK, hE⟩ := id C0
  have hx := hX.1
  have hb := hX.2.1
  have hown := hX.2.2.2.1
  have hts := hX.2.2.2.2
  intro v2 I H locs ls hq hH hl
  unfold v_X2_listNear_62 at hq
  refine lv_iinc (v := (v2 + (1 : Int32))) (lv' := [(2, .int (v2 + (1 : Int32))), (0, .ref (G.1 k)), (1, .ref (G.1 k1))]) hx hb dX2_listNear_62 hl (k := 2) rfl rfl (by decide) rfl (fun ls hl => ?_)
  refine lv_goto (tgt := 16) hx hb dX2_listNear_65 (by decide) ?_
  exact hK16 (v2 + (1 : Int32)) _ _ _ _ hq hH (lv_sub hl [1, 2, 0] rfl)
set_option maxRecDepth 100000 in
set_option maxHeartbeats 4000000 in
theorem s_X2_listNear_16 {k : Nat} {k1 : Nat} {Q : wI → Prop} (hs : wSh k = (0, 2)) (hs1 : wSh k1 = (0, 3)) (C0 : wCx p m c s args meth cX2_listNear 3 RX2 none D cs ad b) : ∀ (f : Nat) (v2 : Int32) (I : wI) (H : Heap) (locs : List Loc) (ls : Array Slot), v_X2_listNear_16 k k1 Q f v2 I → wH D cs b G I s H locs → lv_has ls 3 [(0, .ref (G.1 k)), (1, .ref (G.1 k1)), (2, .int v2)] → W p l e rm_X2_listNear s m args below meth c H locs 0 0 (MQ below (va_Qv (Q) (wPo D cs b G) (fun q => b ≤ q)) args s 0 0 (fun q => b ≤ q)) (F0 m 16 ls []) := by
  obtain ⟨hX, hr, hlk, hK, hE⟩ := id C0
  have hx := hX.1
  have hb := hX.2.1
  have hown := hX.2.2.2.1
  have hts := hX.2.2.2.2
  intro f
  induction f with
  | zero =>
    intro v2 I H locs ls hq
    exact hq.elim
  | succ f hK16 =>
    intro v2 I H locs ls hq hH hl
    have hq : g_X2_listNear_16 k k1 Q (v_X2_listNear_16 k k1 Q f) v2 I := hq
    unfold g_X2_listNear_16 at hq
    refine lv_iload_n hx hb dX2_listNear_16 rfl (lv_at hl 2 rfl) ?_
    refine lv_bipush (v := 10) hx hb dX2_listNear_17 (by decide) ?_
    refine lv_icmp_ge (tgt := 68) hx hb dX2_listNear_19 (by decide) (fun hc => ?_) (fun hc => ?_)
    · have hq := hq.1 hc
      refine lv_iconst (v := 0) hx hb dX2_listNear_68 (by decide) ?_
      refine lv_istore_n (lv' := [(2, .int (0 : Int32)), (0, .ref (G.1 k)), (1, .ref (G.1 k1))]) hx hb dX2_listNear_69 rfl hl (by decide) rfl (fun ls hl => ?_)
      obtain ⟨f, hq⟩ := hq
      exact s_X2_listNear_70 hs hs1 C0  f (0 : Int32) _ _ _ _ hq hH (lv_sub hl [1, 2, 0] rfl)
    · have hq := hq.2 hc
      refine lv_aload_n hx hb dX2_listNear_22 rfl (lv_at hl 1 rfl) ?_
      refine lv_iload_n hx hb dX2_listNear_23 rfl (lv_at hl 2 rfl) ?_
      obtain ⟨hp, hq⟩ := hq
      refine w_cIp hH (w_rV (As := [.int v2]) (rest := []) hX hK hE hH (c_X3_allows hs1 _ _ hp) ck3 hs1 q3_48 q2_206 q2_207 q1_2 q2_208 hd_X3_allows ⟨Nat.le_of_ble_eq_true rfl, Nat.le_of_ble_eq_true rfl⟩ ⟨rfl, rfl⟩ rfl hl.1 rfl (Nat.le_of_ble_eq_true rfl) dX2_listNear_24 ⟨Nat.zero_le _, Nat.zero_le _⟩) (fun r1  H locs hpo hH => ?_)
      have hq := hq r1  hpo
      refine lv_if_eq (tgt := 62) hx hb dX2_listNear_27 (by decide) (fun hc => ?_) (fun hc => ?_)
      · have hq := hq.1 hc
        exact s_X2_listNear_62 hs hs1 C0 hK16 v2 _ _ _ _ hq hH (lv_sub hl [0, 1, 2] rfl)
      · have hq := hq.2 hc
        refine lv_aload_n hx hb dX2_listNear_30 rfl (lv_at hl 0 rfl) ?_
        refine w_getr hX hK hH ck2 hs 3 3 (k + 3) fr2_3 rfl q1_151 dX2_listNear_31 ?_
        refine lv_aload_n hx hb dX2_listNear_34 rfl (lv_at hl 1 rfl) ?_
        refine w_getrN hX hK hE hH ck3 hs1 2 7 (k1 + 7) fr3_2 rfl qn1_63 dX2_listNear_35 ?_
        obtain ⟨hp, hq⟩ := hq
        refine w_cV hH (w_rV (As := [.ref (G.1 (k1 + 7))]) (rest := []) hX hK hE hH (c_X0_copyFrom (sf2_3 hs) (sf3_2 hs1)  _ hp) ck0 (sf2_3 hs) q3_49 q2_45 q2_46 q1_3 q2_47 hd_X0_copyFrom ⟨Nat.le_of_ble_eq_true rfl, Nat.le_of_ble_eq_true rfl⟩ ⟨rfl, rfl⟩ rfl hl.1 rfl (Nat.le_of_ble_eq_true rfl) dX2_listNear_38 ⟨Nat.zero_le _, Nat.zero_le _⟩) (fun  I2 H locs hpo hH => ?_)
        have hq := hq  I2 hpo
        refine lv_aload_n hx hb dX2_listNear_41 rfl (lv_at hl 1 rfl) ?_
        refine w_getrN hX hK hE hH ck3 hs1 1 4 (k1 + 4) fr3_1 rfl qn1_60 dX2_listNear_42 ?_
        refine lv_aload_n hx hb dX2_listNear_45 rfl (lv_at hl 0 rfl) ?_
        refine w_getr hX hK hH ck2 hs 3 3 (k + 3) fr2_3 rfl q1_151 dX2_listNear_46 ?_
        refine lv_iload_n hx hb dX2_listNear_49 rfl (lv_at hl 2 rfl) ?_
        obtain ⟨hp, hq⟩ := hq
        refine w_cV hH (w_rV (As := [.ref (G.1 (k + 3)), .int v2]) (rest := []) hX hK hE hH (c_X1_move (sf3_1 hs1) (sf2_3 hs) _ _ hp) ck1 (sf3_1 hs1) q3_50 q2_165 q2_166 q1_4 q2_167 hd_X1_move ⟨Nat.le_of_ble_eq_true rfl, Nat.le_of_ble_eq_true rfl⟩ ⟨rfl, rfl⟩ rfl hl.1 rfl (Nat.le_of_ble_eq_true rfl) dX2_listNear_50 ⟨Nat.zero_le _, Nat.zero_le _⟩) (fun  I3 H locs hpo hH => ?_)
        have hq := hq  I3 hpo
        refine lv_aload_n hx hb dX2_listNear_53 rfl (lv_at hl 0 rfl) ?_
        refine lv_aload_n hx hb dX2_listNear_54 rfl (lv_at hl 0 rfl) ?_
        refine w_getr hX hK hH ck2 hs 3 3 (k + 3) fr2_3 rfl q1_151 dX2_listNear_55 ?_
        refine lv_iconst (v := 1) hx hb dX2_listNear_58 (by decide) ?_
        obtain ⟨hp, hq⟩ := hq
        refine w_cV hH (w_rV (As := [.ref (G.1 (k + 3)), .int (1 : Int32)]) (rest := []) hX hK hE hH (c_X2_list hs (sf2_3 hs) _ _ hp) ck2 hs q3_40 q3_42 qs9 q1_6 q3_43 hd_X2_list ⟨Nat.le_of_ble_eq_true rfl, Nat.le_of_ble_eq_true rfl⟩ ⟨rfl, rfl⟩ rfl hl.1 rfl (Nat.le_of_ble_eq_true rfl) dX2_listNear_59 ⟨Nat.zero_le _, Nat.zero_le _⟩) (fun  I4 H locs hpo hH => ?_)
        have hq := hq  I4 hpo
        exact s_X2_listNear_62 hs hs1 C0 hK16 v2 _ _ _ _ hq hH (lv_sub hl [0, 1, 2] rfl)
set_option maxRecDepth 100000 in
set_option maxHeartbeats 4000000 in
theorem c_X2_listNear {l : Launch} {D : va_G} {cs : wC4} {ad : Nat → Nat} {b : Nat} {G : wG} {k : Nat} {k1 : Nat} (hs : wSh k = (0, 2)) (hs1 : wSh k1 = (0, 3))  (I : wI) (hp : pre_X2_listNear k k1 I) : Met l yX2_listNear (ws_ yX2_listNear cX2_listNear 3 none) rm_X2_listNear (va_Pc [.ref (G.1 k), .ref (G.1 k1)] (wPr D cs ad b G I)) (va_Qv (fun I' => post_X2_listNear k k1 I I') (wPo D cs b G) (fun q => b ≤ q)) 0 0 (fun q => b ≤ q) := by
  have hq := vc_X2_listNear k k1 I hp
  refine w_met (by decide) (Nat.le_of_ble_eq_true rfl) ?_
  intro p e s m below meth c hX hr hlk hK hE hH ls hl
  have C0 : wCx p m c s _ meth cX2_listNear 3 RX2 none D cs ad b := ⟨hX, hr, hlk, hK, hE⟩
  have hX : CallFix p m c cX2_listNear 3 s _ lw_all RX2 := hX
  have hx := hX.1
  have hb := hX.2.1
  have hown := hX.2.2.2.1
  have hts := hX.2.2.2.2
  have hl : lv_has ls 3 [(0, .ref (G.1 k)), (1, .ref (G.1 k1))] := hl
  unfold v_X2_listNear at hq
  refine lv_aload_n hx hb dX2_listNear_0 rfl (lv_at hl 0 rfl) ?_
  refine lv_iconst (v := 0) hx hb dX2_listNear_1 (by decide) ?_
  refine w_puti hX hK hH ck2 hs 2 fw2_2 q1_150 dX2_listNear_2 (fun I1 H locs hI hH => ?_)
  have hq := hq I1 hI
  refine lv_aload_n hx hb dX2_listNear_5 rfl (lv_at hl 0 rfl) ?_
  refine lv_aload_n hx hb dX2_listNear_6 rfl (lv_at hl 1 rfl) ?_
  refine w_getrN hX hK hE hH ck3 hs1 2 7 (k1 + 7) fr3_2 rfl qn1_63 dX2_listNear_7 ?_
  refine lv_iconst (v := 0) hx hb dX2_listNear_10 (by decide) ?_
  obtain ⟨hp, hq⟩ := hq
  refine w_cV hH (w_rV (As := [.ref (G.1 (k1 + 7)), .int (0 : Int32)]) (rest := []) hX hK hE hH (c_X2_list hs (sf3_2 hs1) _ _ hp) ck2 hs q3_40 q3_42 qs9 q1_6 q3_43 hd_X2_list ⟨Nat.le_of_ble_eq_true rfl, Nat.le_of_ble_eq_true rfl⟩ ⟨rfl, rfl⟩ rfl hl.1 rfl (Nat.le_of_ble_eq_true rfl) dX2_listNear_11 ⟨Nat.zero_le _, Nat.zero_le _⟩) (fun  I2 H locs hpo hH => ?_)
  have hq := hq  I2 hpo
  refine lv_iconst (v := 0) hx hb dX2_listNear_14 (by decide) ?_
  refine lv_istore_n (lv' := [(2, .int (0 : Int32)), (0, .ref (G.1 k)), (1, .ref (G.1 k1))]) hx hb dX2_listNear_15 rfl hl (by decide) rfl (fun ls hl => ?_)
  obtain ⟨f, hq⟩ := hq
  exact s_X2_listNear_16 hs hs1 C0  f (0 : Int32) _ _ _ _ hq hH (lv_sub hl [1, 2, 0] rfl)
abbrev rm_X2_listedTurns : Room := { frames := 1, cells := 0, slots := 0, locals := 22 }
theorem hd_X2_listedTurns : yX2_listedTurns.cls = RX2 ∧ yX2_listedTurns.cls ≠ "java/lang/invoke/MethodHandle" ∧ yX2_listedTurns.cls ≠ "java/lang/invoke/VarHandle" ∧ (parseMethodDescriptor yX2_listedTurns.desc).map (fun d => d.parameters.length) = some 1 := by decide +kernel
set_option maxRecDepth 100000 in
set_option maxHeartbeats 4000000 in
theorem s_X2_listedTurns_44 {k : Nat} {k1 : Nat} {I : wI} {Q : Int32 → Prop} (hs : wSh k = (0, 2)) (hs1 : wSh k1 = (0, 0)) (C0 : wCx p m c s args meth cX2_listedTurns 4 RX2 (some .int) D cs ad b) : ∀  (H : Heap) (locs : List Loc) (ls : Array Slot), v_X2_listedTurns_44 k k1 I Q  → wH D cs b G I s H locs → lv_has ls 4 [] → W p l e rm_X2_listedTurns s m args below meth c H locs 0 0 (MQ below (va_Qi (fun r I' => I' = I ∧ Q r) (wPo D cs b G) (fun q => b ≤ q)) args s 0 0 (fun q => b ≤ q)) (F0 m 44 ls []) := by
  obtain ⟨hX, hr, hlk, hK, hE⟩ := id C0
  have hx := hX.1
  have hb := hX.2.1
  have hown := hX.2.2.2.1
  have hts := hX.2.2.2.2
  intro  H locs ls hq hH hl
  unfold v_X2_listedTurns_44 at hq
  refine lv_iconst (v := -1) hx hb dX2_listedTurns_44 (by decide) ?_
  exact w_eI hX hr hlk hH ⟨rfl, hq⟩ dX2_listedTurns_45
set_option maxRecDepth 100000 in
set_option maxHeartbeats 4000000 in
theorem s_X2_listedTurns_7 {k : Nat} {k1 : Nat} {I : wI} {Q : Int32 → Prop} (hs : wSh k = (0, 2)) (hs1 : wSh k1 = (0, 0)) (C0 : wCx p m c s args meth cX2_listedTurns 4 RX2 (some .int) D cs ad b) : ∀ (f : Nat) (v2 : Int32) (v3 : Int32) (H : Heap) (locs : List Loc) (ls : Array Slot), v_X2_listedTurns_7 k k1 I Q f v2 v3 → wH D cs b G I s H locs → lv_has ls 4 [(0, .ref (G.1 k)), (2, .int v2), (3, .int v3)] → W p l e rm_X2_listedTurns s m args below meth c H locs 0 0 (MQ below (va_Qi (fun r I' => I' = I ∧ Q r) (wPo D cs b G) (fun q => b ≤ q)) args s 0 0 (fun q => b ≤ q)) (F0 m 7 ls []) := by
  obtain ⟨hX, hr, hlk, hK, hE⟩ := id C0
  have hx := hX.1
  have hb := hX.2.1
  have hown := hX.2.2.2.1
  have hts := hX.2.2.2.2
  intro f
  induction f with
  | zero =>
    intro v2 v3 H locs ls hq
    exact hq.elim
  | succ f hK7 =>
    intro v2 v3 H locs ls hq hH hl
    have hq : g_X2_listedTurns_7 k k1 I Q (v_X2_listedTurns_7 k k1 I Q f) v2 v3 := hq
    unfold g_X2_listedTurns_7 at hq
    refine lv_iload_n hx hb dX2_listedTurns_7 rfl (lv_at hl 2 rfl) ?_
    refine lv_aload_n hx hb dX2_listedTurns_8 rfl (lv_at hl 0 rfl) ?_
    refine w_geti hX hK hH ck2 hs 2 fi2_2 q1_150 dX2_listedTurns_9 ?_
    refine lv_icmp_ge (tgt := 44) hx hb dX2_listedTurns_12 (by decide) (fun hc => ?_) (fun hc => ?_)
    · have hq := hq.1 hc
      exact s_X2_listedTurns_44 hs hs1 C0   _ _ _ hq hH (lv_sub hl [] rfl)
    · have hq := hq.2 hc
      refine lv_iload_n hx hb dX2_listedTurns_15 rfl (lv_at hl 2 rfl) ?_
      refine lv_bipush (v := 111) hx hb dX2_listedTurns_16 (by decide) ?_
      refine lv_icmp_ge (tgt := 44) hx hb dX2_listedTurns_18 (by decide) (fun hc => ?_) (fun hc => ?_)
      · have hq := hq.1 hc
        exact s_X2_listedTurns_44 hs hs1 C0   _ _ _ hq hH (lv_sub hl [] rfl)
      · have hq := hq.2 hc
        refine lv_aload_n hx hb dX2_listedTurns_21 rfl (lv_at hl 0 rfl) ?_
        refine w_getr hX hK hH ck2 hs 0 1 (k + 1) fr2_0 rfl q1_148 dX2_listedTurns_22 ?_
        refine lv_iload_n hx hb dX2_listedTurns_25 rfl (lv_at hl 2 rfl) ?_
        obtain ⟨hc, hq⟩ := hq
        refine w_iald hX hK hH (sf2_0 hs) hc dX2_listedTurns_26 ?_
        refine lv_iload_n hx hb dX2_listedTurns_27 rfl (lv_at hl 1 rfl) ?_
        refine lv_icmp_ne (tgt := 38) hx hb dX2_listedTurns_28 (by decide) (fun hc => ?_) (fun hc => ?_)
        · have hq := hq.1 hc
          refine lv_iinc (v := (v3 + (1 : Int32))) (lv' := [(3, .int (v3 + (1 : Int32))), (0, .ref (G.1 k)), (2, .int v2)]) hx hb dX2_listedTurns_38 hl (k := 2) rfl rfl (by decide) rfl (fun ls hl => ?_)
          refine lv_goto (tgt := 7) hx hb dX2_listedTurns_41 (by decide) ?_
          exact hK7 v2 (v3 + (1 : Int32)) _ _ _ hq hH (lv_sub hl [1, 2, 0] rfl)
        · have hq := hq.2 hc
          refine lv_aload_n hx hb dX2_listedTurns_31 rfl (lv_at hl 0 rfl) ?_
          refine w_getr hX hK hH ck2 hs 1 2 (k + 2) fr2_1 rfl q1_149 dX2_listedTurns_32 ?_
          refine lv_iload_n hx hb dX2_listedTurns_35 rfl (lv_at hl 2 rfl) ?_
          obtain ⟨hc, hq⟩ := hq
          refine w_iald hX hK hH (sf2_1 hs) hc dX2_listedTurns_36 ?_
          exact w_eI hX hr hlk hH ⟨rfl, hq⟩ dX2_listedTurns_37
set_option maxRecDepth 100000 in
set_option maxHeartbeats 4000000 in
theorem c_X2_listedTurns {l : Launch} {D : va_G} {cs : wC4} {ad : Nat → Nat} {b : Nat} {G : wG} {k : Nat} {k1 : Nat} (hs : wSh k = (0, 2)) (hs1 : wSh k1 = (0, 0))  (I : wI) (hp : pre_X2_listedTurns k k1 I) : Met l yX2_listedTurns (ws_ yX2_listedTurns cX2_listedTurns 4 (some .int)) rm_X2_listedTurns (va_Pc [.ref (G.1 k), .ref (G.1 k1)] (wPr D cs ad b G I)) (va_Qi (fun r I' => I' = I ∧ post_X2_listedTurns k k1 I r) (wPo D cs b G) (fun q => b ≤ q)) 0 0 (fun q => b ≤ q) := by
  have hq := vc_X2_listedTurns k k1 I hp
  refine w_met (by decide) (Nat.le_of_ble_eq_true rfl) ?_
  intro p e s m below meth c hX hr hlk hK hE hH ls hl
  have C0 : wCx p m c s _ meth cX2_listedTurns 4 RX2 (some .int) D cs ad b := ⟨hX, hr, hlk, hK, hE⟩
  have hX : CallFix p m c cX2_listedTurns 4 s _ lw_all RX2 := hX
  have hx := hX.1
  have hb := hX.2.1
  have hown := hX.2.2.2.1
  have hts := hX.2.2.2.2
  have hl : lv_has ls 4 [(0, .ref (G.1 k)), (1, .ref (G.1 k1))] := hl
  unfold v_X2_listedTurns at hq
  refine lv_aload_n hx hb dX2_listedTurns_0 rfl (lv_at hl 1 rfl) ?_
  obtain ⟨hp, hq⟩ := hq
  refine w_cIp hH (w_rV (As := []) (rest := []) hX hK hE hH (c_X0_fingerprint hs1  _ hp) ck0 hs1 q3_44 q3_45 q3_46 q1_3 q3_47 hd_X0_fingerprint ⟨Nat.le_of_ble_eq_true rfl, Nat.le_of_ble_eq_true rfl⟩ ⟨rfl, rfl⟩ rfl hl.1 rfl (Nat.le_of_ble_eq_true rfl) dX2_listedTurns_1 ⟨Nat.zero_le _, Nat.zero_le _⟩) (fun r1  H locs hpo hH => ?_)
  have hq := hq r1  hpo
  refine lv_istore_n (lv' := [(2, .int r1), (0, .ref (G.1 k)), (1, .ref (G.1 k1))]) hx hb dX2_listedTurns_4 rfl hl (by decide) rfl (fun ls hl => ?_)
  refine lv_iconst (v := 0) hx hb dX2_listedTurns_5 (by decide) ?_
  refine lv_istore_n (lv' := [(3, .int (0 : Int32)), (2, .int r1), (0, .ref (G.1 k)), (1, .ref (G.1 k1))]) hx hb dX2_listedTurns_6 rfl hl (by decide) rfl (fun ls hl => ?_)
  obtain ⟨f, hq⟩ := hq
  exact s_X2_listedTurns_7 hs hs1 C0  f r1 (0 : Int32) _ _ _ hq hH (lv_sub hl [2, 1, 0] rfl)
abbrev rm_X2_meetsList : Room := { frames := 2, cells := 0, slots := 0, locals := 54 }
theorem hd_X2_meetsList : yX2_meetsList.cls = RX2 ∧ yX2_meetsList.cls ≠ "java/lang/invoke/MethodHandle" ∧ yX2_meetsList.cls ≠ "java/lang/invoke/VarHandle" ∧ (parseMethodDescriptor yX2_meetsList.desc).map (fun d => d.parameters.length) = some 1 := by decide +kernel
set_option maxRecDepth 100000 in
set_option maxHeartbeats 4000000 in
theorem s_X2_meetsList_53 {k : Nat} {k1 : Nat} {Q : Int32 → wI → Prop} {K2 : Int32 → wI → Prop} (hs : wSh k = (0, 2)) (hs1 : wSh k1 = (0, 3)) (C0 : wCx p m c s args meth cX2_meetsList 3 RX2 (some .boolean) D cs ad b) (hK2 : ∀ (v2 : Int32) (I : wI) (H : Heap) (locs : List Loc) (ls : Array Slot), K2 v2 I → wH D cs b G I s H locs → lv_has ls 3 [(0, .ref (G.1 k)), (1, .ref (G.1 k1)), (2, .int v2)] → W p l e rm_X2_meetsList s m args below meth c H locs 0 0 (MQ below (va_Qi (Q) (wPo D cs b G) (fun q => b ≤ q)) args s 0 0 (fun q => b ≤ q)) (F0 m 2 ls [])) : ∀ (v2 : Int32) (I : wI) (H : Heap) (locs : List Loc) (ls : Array Slot), v_X2_meetsList_53 k k1 Q K2 v2 I → wH D cs b G I s H locs → lv_has ls 3 [(0, .ref (G.1 k)), (1, .ref (G.1 k1)), (2, .int v2)] → W p l e rm_X2_meetsList s m args below meth c H locs 0 0 (MQ below (va_Qi (Q) (wPo D cs b G) (fun q => b ≤ q)) args s 0 0 (fun q => b ≤ q)) (F0 m 53 ls []) := by
  obtain ⟨hX, hr, hlk, hK, hE⟩ := id C0
  have hx := hX.1
  have hb := hX.2.1
  have hown := hX.2.2.2.1
  have hts := hX.2.2.2.2
  intro v2 I H locs ls hq hH hl
  unfold v_X2_meetsList_53 at hq
  refine lv_iinc (v := (v2 + (1 : Int32))) (lv' := [(2, .int (v2 + (1 : Int32))), (0, .ref (G.1 k)), (1, .ref (G.1 k1))]) hx hb dX2_meetsList_53 hl (k := 2) rfl rfl (by decide) rfl (fun ls hl => ?_)
  refine lv_goto (tgt := 2) hx hb dX2_meetsList_56 (by decide) ?_
  exact hK2 (v2 + (1 : Int32)) _ _ _ _ hq hH (lv_sub hl [1, 2, 0] rfl)
set_option maxRecDepth 100000 in
set_option maxHeartbeats 4000000 in
theorem s_X2_meetsList_2 {k : Nat} {k1 : Nat} {Q : Int32 → wI → Prop} (hs : wSh k = (0, 2)) (hs1 : wSh k1 = (0, 3)) (C0 : wCx p m c s args meth cX2_meetsList 3 RX2 (some .boolean) D cs ad b) : ∀ (f : Nat) (v2 : Int32) (I : wI) (H : Heap) (locs : List Loc) (ls : Array Slot), v_X2_meetsList_2 k k1 Q f v2 I → wH D cs b G I s H locs → lv_has ls 3 [(0, .ref (G.1 k)), (1, .ref (G.1 k1)), (2, .int v2)] → W p l e rm_X2_meetsList s m args below meth c H locs 0 0 (MQ below (va_Qi (Q) (wPo D cs b G) (fun q => b ≤ q)) args s 0 0 (fun q => b ≤ q)) (F0 m 2 ls []) := by
  obtain ⟨hX, hr, hlk, hK, hE⟩ := id C0
  have hx := hX.1
  have hb := hX.2.1
  have hown := hX.2.2.2.1
  have hts := hX.2.2.2.2
  intro f
  induction f with
  | zero =>
    intro v2 I H locs ls hq
    exact hq.elim
  | succ f hK2 =>
    intro v2 I H locs ls hq hH hl
    have hq : g_X2_meetsList_2 k k1 Q (v_X2_meetsList_2 k k1 Q f) v2 I := hq
    unfold g_X2_meetsList_2 at hq
    refine lv_iload_n hx hb dX2_meetsList_2 rfl (lv_at hl 2 rfl) ?_
    refine lv_bipush (v := 10) hx hb dX2_meetsList_3 (by decide) ?_
    refine lv_icmp_ge (tgt := 59) hx hb dX2_meetsList_5 (by decide) (fun hc => ?_) (fun hc => ?_)
    · have hq := hq.1 hc
      refine lv_iconst (v := 0) hx hb dX2_meetsList_59 (by decide) ?_
      exact w_eZ (by decide) hX hr hlk hH hq dX2_meetsList_60
    · have hq := hq.2 hc
      refine lv_aload_n hx hb dX2_meetsList_8 rfl (lv_at hl 1 rfl) ?_
      refine lv_iload_n hx hb dX2_meetsList_9 rfl (lv_at hl 2 rfl) ?_
      obtain ⟨hp, hq⟩ := hq
      refine w_cIp hH (w_rV (As := [.int v2]) (rest := []) hX hK hE hH (c_X3_allows hs1 _ _ hp) ck3 hs1 q3_48 q2_206 q2_207 q1_2 q2_208 hd_X3_allows ⟨Nat.le_of_ble_eq_true rfl, Nat.le_of_ble_eq_true rfl⟩ ⟨rfl, rfl⟩ rfl hl.1 rfl (Nat.le_of_ble_eq_true rfl) dX2_meetsList_10 ⟨Nat.zero_le _, Nat.zero_le _⟩) (fun r1  H locs hpo hH => ?_)
      have hq := hq r1  hpo
      refine lv_if_eq (tgt := 53) hx hb dX2_meetsList_13 (by decide) (fun hc => ?_) (fun hc => ?_)
      · have hq := hq.1 hc
        exact s_X2_meetsList_53 hs hs1 C0 hK2 v2 _ _ _ _ hq hH (lv_sub hl [0, 1, 2] rfl)
      · have hq := hq.2 hc
        refine lv_aload_n hx hb dX2_meetsList_16 rfl (lv_at hl 0 rfl) ?_
        refine w_getr hX hK hH ck2 hs 4 6 (k + 6) fr2_4 rfl q1_152 dX2_meetsList_17 ?_
        refine lv_aload_n hx hb dX2_meetsList_20 rfl (lv_at hl 0 rfl) ?_
        refine w_getr hX hK hH ck2 hs 3 3 (k + 3) fr2_3 rfl q1_151 dX2_meetsList_21 ?_
        obtain ⟨hp, hq⟩ := hq
        refine w_cV hH (w_rV (As := [.ref (G.1 (k + 3))]) (rest := []) hX hK hE hH (c_X0_copyFrom (sf2_4 hs) (sf2_3 hs)  _ hp) ck0 (sf2_4 hs) q3_49 q2_45 q2_46 q1_3 q2_47 hd_X0_copyFrom ⟨Nat.le_of_ble_eq_true rfl, Nat.le_of_ble_eq_true rfl⟩ ⟨rfl, rfl⟩ rfl hl.1 rfl (Nat.le_of_ble_eq_true rfl) dX2_meetsList_24 ⟨Nat.zero_le _, Nat.zero_le _⟩) (fun  I2 H locs hpo hH => ?_)
        have hq := hq  I2 hpo
        refine lv_aload_n hx hb dX2_meetsList_27 rfl (lv_at hl 1 rfl) ?_
        refine w_getrN hX hK hE hH ck3 hs1 1 4 (k1 + 4) fr3_1 rfl qn1_60 dX2_meetsList_28 ?_
        refine lv_aload_n hx hb dX2_meetsList_31 rfl (lv_at hl 0 rfl) ?_
        refine w_getr hX hK hH ck2 hs 4 6 (k + 6) fr2_4 rfl q1_152 dX2_meetsList_32 ?_
        refine lv_iload_n hx hb dX2_meetsList_35 rfl (lv_at hl 2 rfl) ?_
        obtain ⟨hp, hq⟩ := hq
        refine w_cV hH (w_rV (As := [.ref (G.1 (k + 6)), .int v2]) (rest := []) hX hK hE hH (c_X1_move (sf3_1 hs1) (sf2_4 hs) _ _ hp) ck1 (sf3_1 hs1) q3_50 q2_165 q2_166 q1_4 q2_167 hd_X1_move ⟨Nat.le_of_ble_eq_true rfl, Nat.le_of_ble_eq_true rfl⟩ ⟨rfl, rfl⟩ rfl hl.1 rfl (Nat.le_of_ble_eq_true rfl) dX2_meetsList_36 ⟨Nat.zero_le _, Nat.zero_le _⟩) (fun  I3 H locs hpo hH => ?_)
        have hq := hq  I3 hpo
        refine lv_aload_n hx hb dX2_meetsList_39 rfl (lv_at hl 0 rfl) ?_
        refine lv_aload_n hx hb dX2_meetsList_40 rfl (lv_at hl 0 rfl) ?_
        refine w_getr hX hK hH ck2 hs 4 6 (k + 6) fr2_4 rfl q1_152 dX2_meetsList_41 ?_
        obtain ⟨hp, hq⟩ := hq
        refine w_cIp hH (w_rV (As := [.ref (G.1 (k + 6))]) (rest := []) hX hK hE hH (c_X2_listedTurns hs (sf2_4 hs)  _ hp) ck2 hs q3_59 q3_61 qs12 q1_6 q3_62 hd_X2_listedTurns ⟨Nat.le_of_ble_eq_true rfl, Nat.le_of_ble_eq_true rfl⟩ ⟨rfl, rfl⟩ rfl hl.1 rfl (Nat.le_of_ble_eq_true rfl) dX2_meetsList_44 ⟨Nat.zero_le _, Nat.zero_le _⟩) (fun r4  H locs hpo hH => ?_)
        have hq := hq r4  hpo
        refine lv_iconst (v := -1) hx hb dX2_meetsList_47 (by decide) ?_
        refine lv_icmp_eq (tgt := 53) hx hb dX2_meetsList_48 (by decide) (fun hc => ?_) (fun hc => ?_)
        · have hq := hq.1 hc
          exact s_X2_meetsList_53 hs hs1 C0 hK2 v2 _ _ _ _ hq hH (lv_sub hl [0, 1, 2] rfl)
        · have hq := hq.2 hc
          refine lv_iconst (v := 1) hx hb dX2_meetsList_51 (by decide) ?_
          exact w_eZ (by decide) hX hr hlk hH hq dX2_meetsList_52
set_option maxRecDepth 100000 in
set_option maxHeartbeats 4000000 in
theorem c_X2_meetsList {l : Launch} {D : va_G} {cs : wC4} {ad : Nat → Nat} {b : Nat} {G : wG} {k : Nat} {k1 : Nat} (hs : wSh k = (0, 2)) (hs1 : wSh k1 = (0, 3))  (I : wI) (hp : pre_X2_meetsList k k1 I) : Met l yX2_meetsList (ws_ yX2_meetsList cX2_meetsList 3 (some .boolean)) rm_X2_meetsList (va_Pc [.ref (G.1 k), .ref (G.1 k1)] (wPr D cs ad b G I)) (va_Qi (fun r I' => post_X2_meetsList k k1 I r I') (wPo D cs b G) (fun q => b ≤ q)) 0 0 (fun q => b ≤ q) := by
  have hq := vc_X2_meetsList k k1 I hp
  refine w_met (by decide) (Nat.le_of_ble_eq_true rfl) ?_
  intro p e s m below meth c hX hr hlk hK hE hH ls hl
  have C0 : wCx p m c s _ meth cX2_meetsList 3 RX2 (some .boolean) D cs ad b := ⟨hX, hr, hlk, hK, hE⟩
  have hX : CallFix p m c cX2_meetsList 3 s _ lw_all RX2 := hX
  have hx := hX.1
  have hb := hX.2.1
  have hown := hX.2.2.2.1
  have hts := hX.2.2.2.2
  have hl : lv_has ls 3 [(0, .ref (G.1 k)), (1, .ref (G.1 k1))] := hl
  unfold v_X2_meetsList at hq
  refine lv_iconst (v := 0) hx hb dX2_meetsList_0 (by decide) ?_
  refine lv_istore_n (lv' := [(2, .int (0 : Int32)), (0, .ref (G.1 k)), (1, .ref (G.1 k1))]) hx hb dX2_meetsList_1 rfl hl (by decide) rfl (fun ls hl => ?_)
  obtain ⟨f, hq⟩ := hq
  exact s_X2_meetsList_2 hs hs1 C0  f (0 : Int32) _ _ _ _ hq hH (lv_sub hl [1, 2, 0] rfl)
abbrev rm_X2_tryFirst : Room := { frames := 3, cells := 0, slots := 0, locals := 76 }
theorem hd_X2_tryFirst : yX2_tryFirst.cls = RX2 ∧ yX2_tryFirst.cls ≠ "java/lang/invoke/MethodHandle" ∧ yX2_tryFirst.cls ≠ "java/lang/invoke/VarHandle" ∧ (parseMethodDescriptor yX2_tryFirst.desc).map (fun d => d.parameters.length) = some 2 := by decide +kernel
set_option maxRecDepth 100000 in
set_option maxHeartbeats 4000000 in
theorem s_X2_tryFirst_90 {k : Nat} {k1 : Nat} {x2 : Int32} {Q : wI → Prop} (hs : wSh k = (0, 2)) (hs1 : wSh k1 = (0, 3)) (C0 : wCx p m c s args meth cX2_tryFirst 4 RX2 none D cs ad b) : ∀  (I : wI) (H : Heap) (locs : List Loc) (ls : Array Slot), v_X2_tryFirst_90 k k1 x2 Q  I → wH D cs b G I s H locs → lv_has ls 4 [] → W p l e rm_X2_tryFirst s m args below meth c H locs 0 0 (MQ below (va_Qv (Q) (wPo D cs b G) (fun q => b ≤ q)) args s 0 0 (fun q => b ≤ q)) (F0 m 90 ls []) := by
  obtain ⟨hX, hr, hlk, hK, hE⟩ := id C0
  have hx := hX.1
  have hb := hX.2.1
  have hown := hX.2.2.2.1
  have hts := hX.2.2.2.2
  intro  I H locs ls hq hH hl
  unfold v_X2_tryFirst_90 at hq
  exact w_eV hX hr hlk hH hq dX2_tryFirst_90
set_option maxRecDepth 100000 in
set_option maxHeartbeats 4000000 in
theorem s_X2_tryFirst_78 {k : Nat} {k1 : Nat} {x2 : Int32} {Q : wI → Prop} (hs : wSh k = (0, 2)) (hs1 : wSh k1 = (0, 3)) (C0 : wCx p m c s args meth cX2_tryFirst 4 RX2 none D cs ad b) : ∀ (v3 : Int32) (I : wI) (H : Heap) (locs : List Loc) (ls : Array Slot), v_X2_tryFirst_78 k k1 x2 Q v3 I → wH D cs b G I s H locs → lv_has ls 4 [(0, .ref (G.1 k)), (2, .int x2), (3, .int v3)] → W p l e rm_X2_tryFirst s m args below meth c H locs 0 0 (MQ below (va_Qv (Q) (wPo D cs b G) (fun q => b ≤ q)) args s 0 0 (fun q => b ≤ q)) (F0 m 78 ls []) := by
  obtain ⟨hX, hr, hlk, hK, hE⟩ := id C0
  have hx := hX.1
  have hb := hX.2.1
  have hown := hX.2.2.2.1
  have hts := hX.2.2.2.2
  intro v3 I H locs ls hq hH hl
  unfold v_X2_tryFirst_78 at hq
  refine lv_aload_n hx hb dX2_tryFirst_78 rfl (lv_at hl 0 rfl) ?_
  refine lv_iload_n hx hb dX2_tryFirst_79 rfl (lv_at hl 2 rfl) ?_
  refine lv_iconst (v := 1) hx hb dX2_tryFirst_80 (by decide) ?_
  refine lv_iadd hx hb dX2_tryFirst_81 ?_
  refine w_puti hX hK hH ck2 hs 5 fw2_5 q1_153 dX2_tryFirst_82 (fun I1 H locs hI hH => ?_)
  have hq := hq I1 hI
  refine lv_aload_n hx hb dX2_tryFirst_85 rfl (lv_at hl 0 rfl) ?_
  refine lv_iload_n hx hb dX2_tryFirst_86 rfl (lv_at hl 1 rfl) ?_
  refine w_puti hX hK hH ck2 hs 6 fw2_6 q1_155 dX2_tryFirst_87 (fun I2 H locs hI hH => ?_)
  have hq := hq I2 hI
  exact s_X2_tryFirst_90 hs hs1 C0   _ _ _ _ hq hH (lv_sub hl [] rfl)
set_option maxRecDepth 100000 in
set_option maxHeartbeats 4000000 in
theorem s_X2_tryFirst_55 {k : Nat} {k1 : Nat} {x2 : Int32} {Q : wI → Prop} (hs : wSh k = (0, 2)) (hs1 : wSh k1 = (0, 3)) (C0 : wCx p m c s args meth cX2_tryFirst 4 RX2 none D cs ad b) : ∀ (v3 : Int32) (I : wI) (H : Heap) (locs : List Loc) (ls : Array Slot), v_X2_tryFirst_55 k k1 x2 Q v3 I → wH D cs b G I s H locs → lv_has ls 4 [(0, .ref (G.1 k)), (2, .int x2), (3, .int v3)] → W p l e rm_X2_tryFirst s m args below meth c H locs 0 0 (MQ below (va_Qv (Q) (wPo D cs b G) (fun q => b ≤ q)) args s 0 0 (fun q => b ≤ q)) (F0 m 55 ls []) := by
  obtain ⟨hX, hr, hlk, hK, hE⟩ := id C0
  have hx := hX.1
  have hb := hX.2.1
  have hown := hX.2.2.2.1
  have hts := hX.2.2.2.2
  intro v3 I H locs ls hq hH hl
  unfold v_X2_tryFirst_55 at hq
  refine lv_iload_n hx hb dX2_tryFirst_55 rfl (lv_at hl 2 rfl) ?_
  refine lv_iconst (v := -1) hx hb dX2_tryFirst_56 (by decide) ?_
  refine lv_icmp_eq (tgt := 90) hx hb dX2_tryFirst_57 (by decide) (fun hc => ?_) (fun hc => ?_)
  · have hq := hq.1 hc
    exact s_X2_tryFirst_90 hs hs1 C0   _ _ _ _ hq hH (lv_sub hl [] rfl)
  · have hq := hq.2 hc
    refine lv_aload_n hx hb dX2_tryFirst_60 rfl (lv_at hl 0 rfl) ?_
    refine w_geti hX hK hH ck2 hs 5 fi2_5 q1_153 dX2_tryFirst_61 ?_
    refine lv_iconst (v := -1) hx hb dX2_tryFirst_64 (by decide) ?_
    refine lv_icmp_eq (tgt := 78) hx hb dX2_tryFirst_65 (by decide) (fun hc => ?_) (fun hc => ?_)
    · have hq := hq.1 hc
      exact s_X2_tryFirst_78 hs hs1 C0  v3 _ _ _ _ hq hH (lv_sub hl [0, 1, 2] rfl)
    · have hq := hq.2 hc
      refine lv_iload_n hx hb dX2_tryFirst_68 rfl (lv_at hl 2 rfl) ?_
      refine lv_iconst (v := 1) hx hb dX2_tryFirst_69 (by decide) ?_
      refine lv_iadd hx hb dX2_tryFirst_70 ?_
      refine lv_aload_n hx hb dX2_tryFirst_71 rfl (lv_at hl 0 rfl) ?_
      refine w_geti hX hK hH ck2 hs 5 fi2_5 q1_153 dX2_tryFirst_72 ?_
      refine lv_icmp_ge (tgt := 90) hx hb dX2_tryFirst_75 (by decide) (fun hc => ?_) (fun hc => ?_)
      · have hq := hq.1 hc
        exact s_X2_tryFirst_90 hs hs1 C0   _ _ _ _ hq hH (lv_sub hl [] rfl)
      · have hq := hq.2 hc
        exact s_X2_tryFirst_78 hs hs1 C0  v3 _ _ _ _ hq hH (lv_sub hl [0, 1, 2] rfl)
set_option maxRecDepth 100000 in
set_option maxHeartbeats 4000000 in
theorem c_X2_tryFirst {l : Launch} {D : va_G} {cs : wC4} {ad : Nat → Nat} {b : Nat} {G : wG} {k : Nat} {k1 : Nat} (hs : wSh k = (0, 2)) (hs1 : wSh k1 = (0, 3)) (x2 : Int32) (I : wI) (hp : pre_X2_tryFirst k k1 x2 I) : Met l yX2_tryFirst (ws_ yX2_tryFirst cX2_tryFirst 4 none) rm_X2_tryFirst (va_Pc [.ref (G.1 k), .ref (G.1 k1), .int x2] (wPr D cs ad b G I)) (va_Qv (fun I' => post_X2_tryFirst k k1 x2 I I') (wPo D cs b G) (fun q => b ≤ q)) 0 0 (fun q => b ≤ q) := by
  have hq := vc_X2_tryFirst k k1 x2 I hp
  refine w_met (by decide) (Nat.le_of_ble_eq_true rfl) ?_
  intro p e s m below meth c hX hr hlk hK hE hH ls hl
  have C0 : wCx p m c s _ meth cX2_tryFirst 4 RX2 none D cs ad b := ⟨hX, hr, hlk, hK, hE⟩
  have hX : CallFix p m c cX2_tryFirst 4 s _ lw_all RX2 := hX
  have hx := hX.1
  have hb := hX.2.1
  have hown := hX.2.2.2.1
  have hts := hX.2.2.2.2
  have hl : lv_has ls 4 [(0, .ref (G.1 k)), (1, .ref (G.1 k1)), (2, .int x2)] := hl
  unfold v_X2_tryFirst at hq
  refine lv_aload_n hx hb dX2_tryFirst_0 rfl (lv_at hl 0 rfl) ?_
  refine w_getr hX hK hH ck2 hs 3 3 (k + 3) fr2_3 rfl q1_151 dX2_tryFirst_1 ?_
  refine lv_aload_n hx hb dX2_tryFirst_4 rfl (lv_at hl 1 rfl) ?_
  refine w_getrN hX hK hE hH ck3 hs1 0 1 (k1 + 1) fr3_0 rfl qn1_57 dX2_tryFirst_5 ?_
  obtain ⟨hp, hq⟩ := hq
  refine w_cV hH (w_rV (As := [.ref (G.1 (k1 + 1))]) (rest := []) hX hK hE hH (c_X0_copyFrom (sf2_3 hs) (sf3_0 hs1)  _ hp) ck0 (sf2_3 hs) q3_49 q2_45 q2_46 q1_3 q2_47 hd_X0_copyFrom ⟨Nat.le_of_ble_eq_true rfl, Nat.le_of_ble_eq_true rfl⟩ ⟨rfl, rfl⟩ rfl hl.1 rfl (Nat.le_of_ble_eq_true rfl) dX2_tryFirst_8 ⟨Nat.zero_le _, Nat.zero_le _⟩) (fun  I1 H locs hpo hH => ?_)
  have hq := hq  I1 hpo
  refine lv_aload_n hx hb dX2_tryFirst_11 rfl (lv_at hl 1 rfl) ?_
  refine w_getrN hX hK hE hH ck3 hs1 1 4 (k1 + 4) fr3_1 rfl qn1_60 dX2_tryFirst_12 ?_
  refine lv_aload_n hx hb dX2_tryFirst_15 rfl (lv_at hl 0 rfl) ?_
  refine w_getr hX hK hH ck2 hs 3 3 (k + 3) fr2_3 rfl q1_151 dX2_tryFirst_16 ?_
  refine lv_iload_n hx hb dX2_tryFirst_19 rfl (lv_at hl 2 rfl) ?_
  obtain ⟨hp, hq⟩ := hq
  refine w_cV hH (w_rV (As := [.ref (G.1 (k + 3)), .int x2]) (rest := []) hX hK hE hH (c_X1_move (sf3_1 hs1) (sf2_3 hs) _ _ hp) ck1 (sf3_1 hs1) q3_50 q2_165 q2_166 q1_4 q2_167 hd_X1_move ⟨Nat.le_of_ble_eq_true rfl, Nat.le_of_ble_eq_true rfl⟩ ⟨rfl, rfl⟩ rfl hl.1 rfl (Nat.le_of_ble_eq_true rfl) dX2_tryFirst_20 ⟨Nat.zero_le _, Nat.zero_le _⟩) (fun  I2 H locs hpo hH => ?_)
  have hq := hq  I2 hpo
  refine lv_aload_n hx hb dX2_tryFirst_23 rfl (lv_at hl 0 rfl) ?_
  refine lv_aload_n hx hb dX2_tryFirst_24 rfl (lv_at hl 0 rfl) ?_
  refine w_getr hX hK hH ck2 hs 3 3 (k + 3) fr2_3 rfl q1_151 dX2_tryFirst_25 ?_
  obtain ⟨hp, hq⟩ := hq
  refine w_cIp hH (w_rV (As := [.ref (G.1 (k + 3))]) (rest := []) hX hK hE hH (c_X2_listedTurns hs (sf2_3 hs)  _ hp) ck2 hs q3_59 q3_61 qs12 q1_6 q3_62 hd_X2_listedTurns ⟨Nat.le_of_ble_eq_true rfl, Nat.le_of_ble_eq_true rfl⟩ ⟨rfl, rfl⟩ rfl hl.1 rfl (Nat.le_of_ble_eq_true rfl) dX2_tryFirst_28 ⟨Nat.zero_le _, Nat.zero_le _⟩) (fun r3  H locs hpo hH => ?_)
  have hq := hq r3  hpo
  refine lv_istore_n (lv' := [(3, .int r3), (0, .ref (G.1 k)), (1, .ref (G.1 k1)), (2, .int x2)]) hx hb dX2_tryFirst_31 rfl hl (by decide) rfl (fun ls hl => ?_)
  refine lv_iload_n hx hb dX2_tryFirst_32 rfl (lv_at hl 0 rfl) ?_
  refine lv_iconst (v := -1) hx hb dX2_tryFirst_33 (by decide) ?_
  refine lv_icmp_ne (tgt := 55) hx hb dX2_tryFirst_34 (by decide) (fun hc => ?_) (fun hc => ?_)
  · have hq := hq.1 hc
    exact s_X2_tryFirst_55 hs hs1 C0  r3 _ _ _ _ hq hH (lv_sub hl [1, 3, 0] rfl)
  · have hq := hq.2 hc
    refine lv_aload_n hx hb dX2_tryFirst_37 rfl (lv_at hl 1 rfl) ?_
    refine w_geti hX hK hH ck2 hs 5 fi2_5 q1_153 dX2_tryFirst_38 ?_
    refine lv_iconst (v := -1) hx hb dX2_tryFirst_41 (by decide) ?_
    refine lv_icmp_ne (tgt := 55) hx hb dX2_tryFirst_42 (by decide) (fun hc => ?_) (fun hc => ?_)
    · have hq := hq.1 hc
      exact s_X2_tryFirst_55 hs hs1 C0  r3 _ _ _ _ hq hH (lv_sub hl [1, 3, 0] rfl)
    · have hq := hq.2 hc
      refine lv_aload_n hx hb dX2_tryFirst_45 rfl (lv_at hl 1 rfl) ?_
      refine lv_aload_n hx hb dX2_tryFirst_46 rfl (lv_at hl 2 rfl) ?_
      obtain ⟨hp, hq⟩ := hq
      refine w_cI hH (w_rV (As := [.ref (G.1 k1)]) (rest := []) hX hK hE hH (c_X2_meetsList hs hs1  _ hp) ck2 hs q3_63 q3_65 qs13 q1_6 q3_66 hd_X2_meetsList ⟨Nat.le_of_ble_eq_true rfl, Nat.le_of_ble_eq_true rfl⟩ ⟨rfl, rfl⟩ rfl hl.1 rfl (Nat.le_of_ble_eq_true rfl) dX2_tryFirst_47 ⟨Nat.zero_le _, Nat.zero_le _⟩) (fun r4 I5 H locs hpo hH => ?_)
      have hq := hq r4 I5 hpo
      refine lv_if_eq (tgt := 55) hx hb dX2_tryFirst_50 (by decide) (fun hc => ?_) (fun hc => ?_)
      · have hq := hq.1 hc
        exact s_X2_tryFirst_55 hs hs1 C0  r3 _ _ _ _ hq hH (lv_sub hl [1, 3, 0] rfl)
      · have hq := hq.2 hc
        refine lv_iconst (v := 3) hx hb dX2_tryFirst_53 (by decide) ?_
        refine lv_istore_n (lv' := [(3, .int (3 : Int32)), (0, .ref (G.1 k)), (1, .ref (G.1 k1)), (2, .int x2)]) hx hb dX2_tryFirst_54 rfl hl (by decide) rfl (fun ls hl => ?_)
        exact s_X2_tryFirst_55 hs hs1 C0  (3 : Int32) _ _ _ _ hq hH (lv_sub hl [1, 3, 0] rfl)
end
