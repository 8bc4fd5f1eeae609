section
variable {p : Program} {l : Launch} {e : Env} {s : State} {m : MethodId} {args : Array Value} {below : List Frame} {meth : Method} {c : Code} {D : va_G} {cs : wC4} {ad : Nat → Nat} {b : Nat} {G : wG}
abbrev rm_X5_keyx : Room := { frames := 9, cells := 1, slots := 6, locals := 140 }

set_option maxRecDepth 100000 in
set_option maxHeartbeats 4000000 in
theorem s_X5_keyx_107 {x1 : Int32} {x2 : Int32} {X : String → wI → Prop} (hst : l.stackTraces = false) (hEx : ∀ x ∈ c.exceptionTable.toList, False) (C0 : wCx p m c s args meth cX5_key 3 RX5 (some .int) D cs ad b) : ∀ (t0 : Int32) (I : wI) (H : Heap) (locs : List Loc) (ls : Array Slot), v_X5_keyx_107 x1 x2 X t0 I → wH D cs b G I s H locs → lv_has ls 3 [] → W p l e rm_X5_keyx s m args below meth c H locs 0 0 (vx_MQ below (va_Qi (fun (_ : Int32) (_ : wI) => False) (wPo D cs b G) (fun q => b ≤ q)) (wXC D cs b G X) args s 1 6 (fun q => b ≤ q)) (F0 m 107 ls [.int t0]) := by
  obtain ⟨hX, hr, hlk, hK, hE⟩ := id C0
  have hx := hX.1
  have hb := hX.2.1
  have hown := hX.2.2.2.1
  have hts := hX.2.2.2.2
  intro t0 I H locs ls hq hH hl
  unfold v_X5_keyx_107 at hq
  exact hq.elim
set_option maxRecDepth 100000 in
set_option maxHeartbeats 4000000 in
theorem c_X5_keyx {l : Launch} {D : va_G} {cs : wC4} {ad : Nat → Nat} {b : Nat} {G : wG} (hst : l.stackTraces = false) (x1 : Int32) (x2 : Int32) (I : wI) (hp : pre_X5_keyx x1 x2 I) : vx_Met l yX5_key (ws_ yX5_key cX5_key 3 (some .int)) rm_X5_keyx (va_Pc [.ref (b + 0), .int x1, .int x2] (wPr D cs ad b G I)) (va_Qi (fun (_ : Int32) (_ : wI) => False) (wPo D cs b G) (fun q => b ≤ q)) (wXC D cs b G (exc_X5_key x1 x2 I)) 1 6 (fun q => b ≤ q) := by
  have hq := vc_X5_keyx x1 x2 I hp
  refine w_metx (by decide) (Nat.le_of_ble_eq_true rfl) ?_
  intro p e s m below meth c hX hr hlk hEx hK hE hH ls hl
  have C0 : wCx p m c s _ meth cX5_key 3 RX5 (some .int) D cs ad b := ⟨hX, hr, hlk, hK, hE⟩
  have hX : CallFix p m c cX5_key 3 s _ lw_all RX5 := hX
  have hx := hX.1
  have hb := hX.2.1
  have hown := hX.2.2.2.1
  have hts := hX.2.2.2.2
  have hl : lv_has ls 3 [(0, .ref (b + 0)), (1, .int x1), (2, .int x2)] := hl
  unfold v_X5_keyx at hq
  refine lv_iload_n hx hb dX5_key_0 rfl (lv_at hl 1 rfl) ?_
  by_cases hok : ok_X5_requireKey x1 I
  · have hq := hq.1 hok
    obtain ⟨hp, hq⟩ := hq
    refine w_cVp hH (w_rS (As := [.int x1]) (rest := []) hX hK hE hH (c_X5_requireKey  _ _ hp) q3_40 q3_41 q1_1 q3_42 hd_X5_requireKey.2 ⟨Nat.le_of_ble_eq_true rfl, Nat.le_of_ble_eq_true rfl⟩ ⟨rfl, rfl⟩ rfl hl.1 rfl (Nat.le_of_ble_eq_true rfl) dX5_key_1 ⟨Nat.zero_le _, Nat.zero_le _⟩) (fun   H locs hpo hH => ?_)
    have hq := hq   hpo
    refine lv_iload_n hx hb dX5_key_4 rfl (lv_at hl 2 rfl) ?_
    by_cases hc0 : x2 = (0 : Int32)
    · have hq := hq.1 hc0
      refine lv_tableIn (tgt := 44) hx hb dX5_key_5 (by rw [hc0]; decide) (by rw [hc0]; decide) (by rw [hc0]; rfl) (by decide) ?_
      refine lv_aload_n hx hb dX5_key_44 rfl (lv_at hl 0 rfl) ?_
      refine w_getr hX hK hH ck5 sh0 0 1 1 fr5_0 rfl q1_178 dX5_key_45 ?_
      refine w_getrN hX hK hE hH ck3 (sf5_0 sh0) 1 4 5 fr3_1 rfl qn1_64 dX5_key_48 ?_
      refine lv_iload_n hx hb dX5_key_51 rfl (lv_at hl 1 rfl) ?_
      obtain ⟨hp, hq⟩ := hq
      refine w_cIp hH (w_rV (As := [.int x1]) (rest := []) hX hK hE hH (c_X1_maskOf (sf3_1 (sf5_0 sh0)) _ _ hp) ck1 (sf3_1 (sf5_0 sh0)) q3_44 q2_100 q2_101 q1_4 q2_102 hd_X1_maskOf ⟨Nat.le_of_ble_eq_true rfl, Nat.le_of_ble_eq_true rfl⟩ ⟨rfl, rfl⟩ rfl hl.1 rfl (Nat.le_of_ble_eq_true rfl) dX5_key_52 ⟨Nat.zero_le _, Nat.zero_le _⟩) (fun r1  H locs hpo hH => ?_)
      have hq := hq r1  hpo
      exact hq.elim
    by_cases hc1 : x2 = (1 : Int32)
    · have hq := hq.2.1 hc1
      refine lv_tableIn (tgt := 56) hx hb dX5_key_5 (by rw [hc1]; decide) (by rw [hc1]; decide) (by rw [hc1]; rfl) (by decide) ?_
      refine lv_aload_n hx hb dX5_key_56 rfl (lv_at hl 0 rfl) ?_
      refine w_getr hX hK hH ck5 sh0 0 1 1 fr5_0 rfl q1_178 dX5_key_57 ?_
      refine w_getrN hX hK hE hH ck3 (sf5_0 sh0) 1 4 5 fr3_1 rfl qn1_64 dX5_key_60 ?_
      refine lv_iload_n hx hb dX5_key_63 rfl (lv_at hl 1 rfl) ?_
      obtain ⟨hp, hq⟩ := hq
      refine w_cIp hH (w_rV (As := [.int x1]) (rest := []) hX hK hE hH (c_X1_strengthOf (sf3_1 (sf5_0 sh0)) _ _ hp) ck1 (sf3_1 (sf5_0 sh0)) q3_45 q2_104 q2_105 q1_4 q2_106 hd_X1_strengthOf ⟨Nat.le_of_ble_eq_true rfl, Nat.le_of_ble_eq_true rfl⟩ ⟨rfl, rfl⟩ rfl hl.1 rfl (Nat.le_of_ble_eq_true rfl) dX5_key_64 ⟨Nat.zero_le _, Nat.zero_le _⟩) (fun r2  H locs hpo hH => ?_)
      have hq := hq r2  hpo
      exact hq.elim
    by_cases hc2 : x2 = (2 : Int32)
    · have hq := hq.2.2.1 hc2
      refine lv_tableIn (tgt := 68) hx hb dX5_key_5 (by rw [hc2]; decide) (by rw [hc2]; decide) (by rw [hc2]; rfl) (by decide) ?_
      refine lv_aload_n hx hb dX5_key_68 rfl (lv_at hl 0 rfl) ?_
      refine lv_iload_n hx hb dX5_key_69 rfl (lv_at hl 1 rfl) ?_
      obtain ⟨hp, hq⟩ := hq
      refine w_cV hH (w_rV (As := [.int x1]) (rest := []) hX hK hE hH (c_X5_showKey  _ _ hp) ck5 sh0 q3_46 q3_48 qs15 q1_1 q3_49 hd_X5_showKey ⟨Nat.le_of_ble_eq_true rfl, Nat.le_of_ble_eq_true rfl⟩ ⟨rfl, rfl⟩ rfl hl.1 rfl (Nat.le_of_ble_eq_true rfl) dX5_key_70 ⟨Nat.zero_le _, Nat.zero_le _⟩) (fun  I3 H locs hpo hH => ?_)
      have hq := hq  I3 hpo
      refine lv_aload_n hx hb dX5_key_73 rfl (lv_at hl 0 rfl) ?_
      obtain ⟨hp, hq⟩ := hq
      refine w_cI hH (w_rV (As := []) (rest := []) hX hK hE hH (c_X5_periodByDoing   _ hp) ck5 sh0 q3_50 q3_52 qs16 q1_1 q3_53 hd_X5_periodByDoing ⟨Nat.le_of_ble_eq_true rfl, Nat.le_of_ble_eq_true rfl⟩ ⟨rfl, rfl⟩ rfl hl.1 rfl (Nat.le_of_ble_eq_true rfl) dX5_key_74 ⟨Nat.zero_le _, Nat.zero_le _⟩) (fun r4 I5 H locs hpo hH => ?_)
      have hq := hq r4 I5 hpo
      exact hq.elim
    by_cases hc3 : x2 = (3 : Int32)
    · have hq := hq.2.2.2.1 hc3
      refine lv_tableIn (tgt := 78) hx hb dX5_key_5 (by rw [hc3]; decide) (by rw [hc3]; decide) (by rw [hc3]; rfl) (by decide) ?_
      refine lv_aload_n hx hb dX5_key_78 rfl (lv_at hl 0 rfl) ?_
      refine lv_iload_n hx hb dX5_key_79 rfl (lv_at hl 1 rfl) ?_
      obtain ⟨hp, hq⟩ := hq
      refine w_cV hH (w_rV (As := [.int x1]) (rest := []) hX hK hE hH (c_X5_showKey  _ _ hp) ck5 sh0 q3_46 q3_48 qs15 q1_1 q3_49 hd_X5_showKey ⟨Nat.le_of_ble_eq_true rfl, Nat.le_of_ble_eq_true rfl⟩ ⟨rfl, rfl⟩ rfl hl.1 rfl (Nat.le_of_ble_eq_true rfl) dX5_key_80 ⟨Nat.zero_le _, Nat.zero_le _⟩) (fun  I6 H locs hpo hH => ?_)
      have hq := hq  I6 hpo
      refine lv_aload_n hx hb dX5_key_83 rfl (lv_at hl 0 rfl) ?_
      refine w_getr hX hK hH ck5 sh0 6 30 30 fr5_6 rfl q1_184 dX5_key_84 ?_
      obtain ⟨hp, hq⟩ := hq
      refine w_cIp hH (w_rV (As := []) (rest := []) hX hK hE hH (c_X0_periodByRounds (sf5_6 sh0)  _ hp) ck0 (sf5_6 sh0) q3_59 q3_60 q3_61 q1_3 q3_62 hd_X0_periodByRounds ⟨Nat.le_of_ble_eq_true rfl, Nat.le_of_ble_eq_true rfl⟩ ⟨rfl, rfl⟩ rfl hl.1 rfl (Nat.le_of_ble_eq_true rfl) dX5_key_87 ⟨Nat.zero_le _, Nat.zero_le _⟩) (fun r7  H locs hpo hH => ?_)
      have hq := hq r7  hpo
      exact hq.elim
    by_cases hc4 : x2 = (4 : Int32)
    · have hq := hq.2.2.2.2.1 hc4
      refine lv_tableIn (tgt := 91) hx hb dX5_key_5 (by rw [hc4]; decide) (by rw [hc4]; decide) (by rw [hc4]; rfl) (by decide) ?_
      refine lv_aload_n hx hb dX5_key_91 rfl (lv_at hl 0 rfl) ?_
      refine w_getr hX hK hH ck5 sh0 0 1 1 fr5_0 rfl q1_178 dX5_key_92 ?_
      refine lv_iload_n hx hb dX5_key_95 rfl (lv_at hl 1 rfl) ?_
      obtain ⟨hp, hq⟩ := hq
      refine w_cIp hH (w_rV (As := [.int x1]) (rest := []) hX hK hE hH (c_X3_allows (sf5_0 sh0) _ _ hp) ck3 (sf5_0 sh0) q3_70 q2_149 q2_150 q1_2 q2_151 hd_X3_allows ⟨Nat.le_of_ble_eq_true rfl, Nat.le_of_ble_eq_true rfl⟩ ⟨rfl, rfl⟩ rfl hl.1 rfl (Nat.le_of_ble_eq_true rfl) dX5_key_96 ⟨Nat.zero_le _, Nat.zero_le _⟩) (fun r8  H locs hpo hH => ?_)
      have hq := hq r8  hpo
      refine lv_if_eq (tgt := 106) hx hb dX5_key_99 (by decide) (fun hc => ?_) (fun hc => ?_)
      · have hq := hq.1 hc
        refine lv_iconst (v := 1) hx hb dX5_key_106 (by decide) ?_
        exact s_X5_keyx_107 hst hEx C0  (1 : Int32) _ _ _ _ hq hH (lv_sub hl [] rfl)
      · have hq := hq.2 hc
        refine lv_iconst (v := 0) hx hb dX5_key_102 (by decide) ?_
        refine lv_goto (tgt := 107) hx hb dX5_key_103 (by decide) ?_
        exact s_X5_keyx_107 hst hEx C0  (0 : Int32) _ _ _ _ hq hH (lv_sub hl [] rfl)
    by_cases hc5 : x2 = (5 : Int32)
    · have hq := hq.2.2.2.2.2.1 hc5
      refine lv_tableIn (tgt := 108) hx hb dX5_key_5 (by rw [hc5]; decide) (by rw [hc5]; decide) (by rw [hc5]; rfl) (by decide) ?_
      refine lv_aload_n hx hb dX5_key_108 rfl (lv_at hl 0 rfl) ?_
      refine w_getr hX hK hH ck5 sh0 0 1 1 fr5_0 rfl q1_178 dX5_key_109 ?_
      refine lv_iload_n hx hb dX5_key_112 rfl (lv_at hl 1 rfl) ?_
      obtain ⟨hp, hq⟩ := hq
      refine w_cIp hH (w_rV (As := [.int x1]) (rest := []) hX hK hE hH (c_X3_usesOf (sf5_0 sh0) _ _ hp) ck3 (sf5_0 sh0) q3_71 q3_72 q3_73 q1_2 q3_74 hd_X3_usesOf ⟨Nat.le_of_ble_eq_true rfl, Nat.le_of_ble_eq_true rfl⟩ ⟨rfl, rfl⟩ rfl hl.1 rfl (Nat.le_of_ble_eq_true rfl) dX5_key_113 ⟨Nat.zero_le _, Nat.zero_le _⟩) (fun r9  H locs hpo hH => ?_)
      have hq := hq r9  hpo
      exact hq.elim
    have hq := hq.2.2.2.2.2.2 ⟨hc0, hc1, hc2, hc3, hc4, hc5⟩
    have he0 := w_toInt_ne hc0
    have he1 := w_toInt_ne hc1
    have he2 := w_toInt_ne hc2
    have he3 := w_toInt_ne hc3
    have he4 := w_toInt_ne hc4
    have he5 := w_toInt_ne hc5
    refine lv_tableOut (tgt := 117) hx hb dX5_key_5 (w_swOut0_5 hc0 hc1 hc2 hc3 hc4 hc5) (by decide) ?_
    exact w_throw th_X5_66_207_70 hX hst hlk hEx hE hH hl.1 dX5_key_117 dX5_key_120 dX5_key_121 dX5_key_123 dX5_key_126 ⟨Nat.le_of_ble_eq_true rfl, Nat.le_of_ble_eq_true rfl, Nat.le_of_ble_eq_true rfl, Nat.le_of_ble_eq_true rfl⟩ hq
  · have hq := hq.2 hok
    obtain ⟨hp, hq⟩ := hq
    exact w_xV hEx hlk hH (w_xrS (As := [.int x1]) (rest := []) hX hK hE hH (c_X5_requireKeyx hst  _ _ hp) q3_40 q3_41 q1_1 q3_42 hd_X5_requireKey.2 ⟨Nat.le_of_ble_eq_true rfl, Nat.le_of_ble_eq_true rfl⟩ ⟨rfl, rfl⟩ rfl hl.1 rfl (Nat.le_of_ble_eq_true rfl) dX5_key_1 ⟨Nat.le_of_ble_eq_true rfl, Nat.le_of_ble_eq_true rfl⟩) (fun E u h => by obtain ⟨h1, h2⟩ := h; subst h1; exact hq E h2)
abbrev rm_X5_showPair : Room := { frames := 2, cells := 0, slots := 0, locals := 54 }
theorem hd_X5_showPair : yX5_showPair.cls = RX5 ∧ yX5_showPair.cls ≠ "java/lang/invoke/MethodHandle" ∧ yX5_showPair.cls ≠ "java/lang/invoke/VarHandle" ∧ (parseMethodDescriptor yX5_showPair.desc).map (fun d => d.parameters.length) = some 2 := by decide +kernel
set_option maxRecDepth 100000 in
set_option maxHeartbeats 4000000 in
theorem c_X5_showPair {l : Launch} {D : va_G} {cs : wC4} {ad : Nat → Nat} {b : Nat} {G : wG} (x1 : Int32) (x2 : Int32) (I : wI) (hp : pre_X5_showPair x1 x2 I) : Met l yX5_showPair (ws_ yX5_showPair cX5_showPair 3 none) rm_X5_showPair (va_Pc [.ref (b + 0), .int x1, .int x2] (wPr D cs ad b G I)) (va_Qv (fun I' => post_X5_showPair x1 x2 I I') (wPo D cs b G) (fun q => b ≤ q)) 0 0 (fun q => b ≤ q) := by
  have hq := vc_X5_showPair x1 x2 I hp
  refine w_met (by decide) (Nat.le_of_ble_eq_true rfl) ?_
  intro p e s m below meth c hX hr hlk hK hE hH ls hl
  have C0 : wCx p m c s _ meth cX5_showPair 3 RX5 none D cs ad b := ⟨hX, hr, hlk, hK, hE⟩
  have hX : CallFix p m c cX5_showPair 3 s _ lw_all RX5 := hX
  have hx := hX.1
  have hb := hX.2.1
  have hown := hX.2.2.2.1
  have hts := hX.2.2.2.2
  have hl : lv_has ls 3 [(0, .ref (b + 0)), (1, .int x1), (2, .int x2)] := hl
  unfold v_X5_showPair at hq
  refine lv_aload_n hx hb dX5_showPair_0 rfl (lv_at hl 0 rfl) ?_
  refine w_getr hX hK hH ck5 sh0 6 30 30 fr5_6 rfl q1_184 dX5_showPair_1 ?_
  obtain ⟨hp, hq⟩ := hq
  refine w_cV hH (w_rV (As := []) (rest := []) hX hK hE hH (c_X0_bringHome (sf5_6 sh0)  _ hp) ck0 (sf5_6 sh0) q2_4 q2_5 q2_6 q1_3 q2_7 hd_X0_bringHome ⟨Nat.le_of_ble_eq_true rfl, Nat.le_of_ble_eq_true rfl⟩ ⟨rfl, rfl⟩ rfl hl.1 rfl (Nat.le_of_ble_eq_true rfl) dX5_showPair_4 ⟨Nat.zero_le _, Nat.zero_le _⟩) (fun  I1 H locs hpo hH => ?_)
  have hq := hq  I1 hpo
  refine lv_aload_n hx hb dX5_showPair_7 rfl (lv_at hl 0 rfl) ?_
  refine w_getr hX hK hH ck5 sh0 0 1 1 fr5_0 rfl q1_178 dX5_showPair_8 ?_
  refine w_getrN hX hK hE hH ck3 (sf5_0 sh0) 1 4 5 fr3_1 rfl qn1_64 dX5_showPair_11 ?_
  refine lv_aload_n hx hb dX5_showPair_14 rfl (lv_at hl 0 rfl) ?_
  refine w_getr hX hK hH ck5 sh0 6 30 30 fr5_6 rfl q1_184 dX5_showPair_15 ?_
  refine lv_iload_n hx hb dX5_showPair_18 rfl (lv_at hl 1 rfl) ?_
  refine lv_iconst (v := 0) hx hb dX5_showPair_19 (by decide) ?_
  obtain ⟨hp, hq⟩ := hq
  refine w_cIp hH (w_rS (As := [.int x1, .int (0 : Int32)]) (rest := [.ref (b + 30), .ref (b + 5)]) hX hK hE hH (c_X5_moveOf  _ _ _ hp) q2_81 q2_54 q1_1 q2_55 hd_X5_moveOf.2 ⟨Nat.le_of_ble_eq_true rfl, Nat.le_of_ble_eq_true rfl⟩ ⟨rfl, rfl⟩ rfl hl.1 rfl (Nat.le_of_ble_eq_true rfl) dX5_showPair_20 ⟨Nat.zero_le _, Nat.zero_le _⟩) (fun r2  H locs hpo hH => ?_)
  have hq := hq r2  hpo
  obtain ⟨hp, hq⟩ := hq
  refine w_cV hH (w_rV (As := [.ref (b + 30), .int r2]) (rest := []) hX hK hE hH (c_X1_move (sf3_1 (sf5_0 sh0)) (sf5_6 sh0) _ _ hp) ck1 (sf3_1 (sf5_0 sh0)) q2_94 q2_95 q2_96 q1_4 q2_97 hd_X1_move ⟨Nat.le_of_ble_eq_true rfl, Nat.le_of_ble_eq_true rfl⟩ ⟨rfl, rfl⟩ rfl hl.1 rfl (Nat.le_of_ble_eq_true rfl) dX5_showPair_23 ⟨Nat.zero_le _, Nat.zero_le _⟩) (fun  I3 H locs hpo hH => ?_)
  have hq := hq  I3 hpo
  refine lv_aload_n hx hb dX5_showPair_26 rfl (lv_at hl 0 rfl) ?_
  refine w_getr hX hK hH ck5 sh0 0 1 1 fr5_0 rfl q1_178 dX5_showPair_27 ?_
  refine w_getrN hX hK hE hH ck3 (sf5_0 sh0) 1 4 5 fr3_1 rfl qn1_64 dX5_showPair_30 ?_
  refine lv_aload_n hx hb dX5_showPair_33 rfl (lv_at hl 0 rfl) ?_
  refine w_getr hX hK hH ck5 sh0 6 30 30 fr5_6 rfl q1_184 dX5_showPair_34 ?_
  refine lv_iload_n hx hb dX5_showPair_37 rfl (lv_at hl 2 rfl) ?_
  refine lv_iconst (v := 0) hx hb dX5_showPair_38 (by decide) ?_
  obtain ⟨hp, hq⟩ := hq
  refine w_cIp hH (w_rS (As := [.int x2, .int (0 : Int32)]) (rest := [.ref (b + 30), .ref (b + 5)]) hX hK hE hH (c_X5_moveOf  _ _ _ hp) q2_81 q2_54 q1_1 q2_55 hd_X5_moveOf.2 ⟨Nat.le_of_ble_eq_true rfl, Nat.le_of_ble_eq_true rfl⟩ ⟨rfl, rfl⟩ rfl hl.1 rfl (Nat.le_of_ble_eq_true rfl) dX5_showPair_39 ⟨Nat.zero_le _, Nat.zero_le _⟩) (fun r4  H locs hpo hH => ?_)
  have hq := hq r4  hpo
  obtain ⟨hp, hq⟩ := hq
  refine w_cV hH (w_rV (As := [.ref (b + 30), .int r4]) (rest := []) hX hK hE hH (c_X1_move (sf3_1 (sf5_0 sh0)) (sf5_6 sh0) _ _ hp) ck1 (sf3_1 (sf5_0 sh0)) q2_94 q2_95 q2_96 q1_4 q2_97 hd_X1_move ⟨Nat.le_of_ble_eq_true rfl, Nat.le_of_ble_eq_true rfl⟩ ⟨rfl, rfl⟩ rfl hl.1 rfl (Nat.le_of_ble_eq_true rfl) dX5_showPair_42 ⟨Nat.zero_le _, Nat.zero_le _⟩) (fun  I5 H locs hpo hH => ?_)
  have hq := hq  I5 hpo
  refine lv_aload_n hx hb dX5_showPair_45 rfl (lv_at hl 0 rfl) ?_
  refine w_getr hX hK hH ck5 sh0 0 1 1 fr5_0 rfl q1_178 dX5_showPair_46 ?_
  refine w_getrN hX hK hE hH ck3 (sf5_0 sh0) 1 4 5 fr3_1 rfl qn1_64 dX5_showPair_49 ?_
  refine lv_aload_n hx hb dX5_showPair_52 rfl (lv_at hl 0 rfl) ?_
  refine w_getr hX hK hH ck5 sh0 6 30 30 fr5_6 rfl q1_184 dX5_showPair_53 ?_
  refine lv_iload_n hx hb dX5_showPair_56 rfl (lv_at hl 1 rfl) ?_
  refine lv_iconst (v := 1) hx hb dX5_showPair_57 (by decide) ?_
  obtain ⟨hp, hq⟩ := hq
  refine w_cIp hH (w_rS (As := [.int x1, .int (1 : Int32)]) (rest := [.ref (b + 30), .ref (b + 5)]) hX hK hE hH (c_X5_moveOf  _ _ _ hp) q2_81 q2_54 q1_1 q2_55 hd_X5_moveOf.2 ⟨Nat.le_of_ble_eq_true rfl, Nat.le_of_ble_eq_true rfl⟩ ⟨rfl, rfl⟩ rfl hl.1 rfl (Nat.le_of_ble_eq_true rfl) dX5_showPair_58 ⟨Nat.zero_le _, Nat.zero_le _⟩) (fun r6  H locs hpo hH => ?_)
  have hq := hq r6  hpo
  obtain ⟨hp, hq⟩ := hq
  refine w_cV hH (w_rV (As := [.ref (b + 30), .int r6]) (rest := []) hX hK hE hH (c_X1_move (sf3_1 (sf5_0 sh0)) (sf5_6 sh0) _ _ hp) ck1 (sf3_1 (sf5_0 sh0)) q2_94 q2_95 q2_96 q1_4 q2_97 hd_X1_move ⟨Nat.le_of_ble_eq_true rfl, Nat.le_of_ble_eq_true rfl⟩ ⟨rfl, rfl⟩ rfl hl.1 rfl (Nat.le_of_ble_eq_true rfl) dX5_showPair_61 ⟨Nat.zero_le _, Nat.zero_le _⟩) (fun  I7 H locs hpo hH => ?_)
  have hq := hq  I7 hpo
  refine lv_aload_n hx hb dX5_showPair_64 rfl (lv_at hl 0 rfl) ?_
  refine w_getr hX hK hH ck5 sh0 0 1 1 fr5_0 rfl q1_178 dX5_showPair_65 ?_
  refine w_getrN hX hK hE hH ck3 (sf5_0 sh0) 1 4 5 fr3_1 rfl qn1_64 dX5_showPair_68 ?_
  refine lv_aload_n hx hb dX5_showPair_71 rfl (lv_at hl 0 rfl) ?_
  refine w_getr hX hK hH ck5 sh0 6 30 30 fr5_6 rfl q1_184 dX5_showPair_72 ?_
  refine lv_iload_n hx hb dX5_showPair_75 rfl (lv_at hl 2 rfl) ?_
  refine lv_iconst (v := 1) hx hb dX5_showPair_76 (by decide) ?_
  obtain ⟨hp, hq⟩ := hq
  refine w_cIp hH (w_rS (As := [.int x2, .int (1 : Int32)]) (rest := [.ref (b + 30), .ref (b + 5)]) hX hK hE hH (c_X5_moveOf  _ _ _ hp) q2_81 q2_54 q1_1 q2_55 hd_X5_moveOf.2 ⟨Nat.le_of_ble_eq_true rfl, Nat.le_of_ble_eq_true rfl⟩ ⟨rfl, rfl⟩ rfl hl.1 rfl (Nat.le_of_ble_eq_true rfl) dX5_showPair_77 ⟨Nat.zero_le _, Nat.zero_le _⟩) (fun r8  H locs hpo hH => ?_)
  have hq := hq r8  hpo
  obtain ⟨hp, hq⟩ := hq
  refine w_cV hH (w_rV (As := [.ref (b + 30), .int r8]) (rest := []) hX hK hE hH (c_X1_move (sf3_1 (sf5_0 sh0)) (sf5_6 sh0) _ _ hp) ck1 (sf3_1 (sf5_0 sh0)) q2_94 q2_95 q2_96 q1_4 q2_97 hd_X1_move ⟨Nat.le_of_ble_eq_true rfl, Nat.le_of_ble_eq_true rfl⟩ ⟨rfl, rfl⟩ rfl hl.1 rfl (Nat.le_of_ble_eq_true rfl) dX5_showPair_80 ⟨Nat.zero_le _, Nat.zero_le _⟩) (fun  I9 H locs hpo hH => ?_)
  have hq := hq  I9 hpo
  exact w_eV hX hr hlk hH hq dX5_showPair_83
abbrev rm_X5_pair : Room := { frames := 9, cells := 0, slots := 0, locals := 140 }
theorem hd_X5_pair : yX5_pair.cls = RX5 ∧ yX5_pair.cls ≠ "java/lang/invoke/MethodHandle" ∧ yX5_pair.cls ≠ "java/lang/invoke/VarHandle" ∧ (parseMethodDescriptor yX5_pair.desc).map (fun d => d.parameters.length) = some 3 := by decide +kernel
set_option maxRecDepth 100000 in
set_option maxHeartbeats 4000000 in
theorem s_X5_pair_111 {x1 : Int32} {x2 : Int32} {x3 : Int32} {Q : Int32 → wI → Prop} (C0 : wCx p m c s args meth cX5_pair 4 RX5 (some .int) D cs ad b) : ∀ (t0 : Int32) (I : wI) (H : Heap) (locs : List Loc) (ls : Array Slot), v_X5_pair_111 x1 x2 x3 Q t0 I → wH D cs b G I s H locs → lv_has ls 4 [] → W p l e rm_X5_pair s m args below meth c H locs 0 0 (MQ below (va_Qi (Q) (wPo D cs b G) (fun q => b ≤ q)) args s 0 0 (fun q => b ≤ q)) (F0 m 111 ls [.int t0]) := by
  obtain ⟨hX, hr, hlk, hK, hE⟩ := id C0
  have hx := hX.1
  have hb := hX.2.1
  have hown := hX.2.2.2.1
  have hts := hX.2.2.2.2
  intro t0 I H locs ls hq hH hl
  unfold v_X5_pair_111 at hq
  exact w_eI hX hr hlk hH hq dX5_pair_111
set_option maxRecDepth 100000 in
set_option maxHeartbeats 4000000 in
theorem s_X5_pair_17 {x1 : Int32} {x2 : Int32} {x3 : Int32} {Q : Int32 → wI → Prop} (C0 : wCx p m c s args meth cX5_pair 4 RX5 (some .int) D cs ad b) : ∀  (I : wI) (H : Heap) (locs : List Loc) (ls : Array Slot), v_X5_pair_17 x1 x2 x3 Q  I → wH D cs b G I s H locs → lv_has ls 4 [] → W p l e rm_X5_pair s m args below meth c H locs 0 0 (MQ below (va_Qi (Q) (wPo D cs b G) (fun q => b ≤ q)) args s 0 0 (fun q => b ≤ q)) (F0 m 17 ls []) := by
  obtain ⟨hX, hr, hlk, hK, hE⟩ := id C0
  have hx := hX.1
  have hb := hX.2.1
  have hown := hX.2.2.2.1
  have hts := hX.2.2.2.2
  intro  I H locs ls hq hH hl
  unfold v_X5_pair_17 at hq
  exact hq.elim
set_option maxRecDepth 100000 in
set_option maxHeartbeats 4000000 in
theorem c_X5_pair {l : Launch} {D : va_G} {cs : wC4} {ad : Nat → Nat} {b : Nat} {G : wG} (x1 : Int32) (x2 : Int32) (x3 : Int32) (I : wI) (hp : pre_X5_pair x1 x2 x3 I) : Met l yX5_pair (ws_ yX5_pair cX5_pair 4 (some .int)) rm_X5_pair (va_Pc [.ref (b + 0), .int x1, .int x2, .int x3] (wPr D cs ad b G I)) (va_Qi (fun r I' => post_X5_pair x1 x2 x3 I r I') (wPo D cs b G) (fun q => b ≤ q)) 0 0 (fun q => b ≤ q) := by
  have hq := vc_X5_pair x1 x2 x3 I hp
  refine w_met (by decide) (Nat.le_of_ble_eq_true rfl) ?_
  intro p e s m below meth c hX hr hlk hK hE hH ls hl
  have C0 : wCx p m c s _ meth cX5_pair 4 RX5 (some .int) D cs ad b := ⟨hX, hr, hlk, hK, hE⟩
  have hX : CallFix p m c cX5_pair 4 s _ lw_all RX5 := hX
  have hx := hX.1
  have hb := hX.2.1
  have hown := hX.2.2.2.1
  have hts := hX.2.2.2.2
  have hl : lv_has ls 4 [(0, .ref (b + 0)), (1, .int x1), (2, .int x2), (3, .int x3)] := hl
  unfold v_X5_pair at hq
  refine lv_iload_n hx hb dX5_pair_0 rfl (lv_at hl 1 rfl) ?_
  obtain ⟨hp, hq⟩ := hq
  refine w_cVp hH (w_rS (As := [.int x1]) (rest := []) hX hK hE hH (c_X5_requireKey  _ _ hp) q3_40 q3_41 q1_1 q3_42 hd_X5_requireKey.2 ⟨Nat.le_of_ble_eq_true rfl, Nat.le_of_ble_eq_true rfl⟩ ⟨rfl, rfl⟩ rfl hl.1 rfl (Nat.le_of_ble_eq_true rfl) dX5_pair_1 ⟨Nat.zero_le _, Nat.zero_le _⟩) (fun   H locs hpo hH => ?_)
  have hq := hq   hpo
  refine lv_iload_n hx hb dX5_pair_4 rfl (lv_at hl 2 rfl) ?_
  obtain ⟨hp, hq⟩ := hq
  refine w_cVp hH (w_rS (As := [.int x2]) (rest := []) hX hK hE hH (c_X5_requireKey  _ _ hp) q3_40 q3_41 q1_1 q3_42 hd_X5_requireKey.2 ⟨Nat.le_of_ble_eq_true rfl, Nat.le_of_ble_eq_true rfl⟩ ⟨rfl, rfl⟩ rfl hl.1 rfl (Nat.le_of_ble_eq_true rfl) dX5_pair_5 ⟨Nat.zero_le _, Nat.zero_le _⟩) (fun   H locs hpo hH => ?_)
  have hq := hq   hpo
  refine lv_iload_n hx hb dX5_pair_8 rfl (lv_at hl 3 rfl) ?_
  refine lv_if_lt (tgt := 17) hx hb dX5_pair_9 (by decide) (fun hc => ?_) (fun hc => ?_)
  · have hq := hq.1 hc
    exact s_X5_pair_17  C0   _ _ _ _ hq hH (lv_sub hl [] rfl)
  · have hq := hq.2 hc
    refine lv_iload_n hx hb dX5_pair_12 rfl (lv_at hl 3 rfl) ?_
    refine lv_iconst (v := 4) hx hb dX5_pair_13 (by decide) ?_
    refine lv_icmp_le (tgt := 27) hx hb dX5_pair_14 (by decide) (fun hc => ?_) (fun hc => ?_)
    · have hq := hq.1 hc
      refine lv_aload_n hx hb dX5_pair_27 rfl (lv_at hl 0 rfl) ?_
      refine lv_iload_n hx hb dX5_pair_28 rfl (lv_at hl 1 rfl) ?_
      refine lv_iload_n hx hb dX5_pair_29 rfl (lv_at hl 2 rfl) ?_
      obtain ⟨hp, hq⟩ := hq
      refine w_cV hH (w_rV (As := [.int x1, .int x2]) (rest := []) hX hK hE hH (c_X5_showPair  _ _ _ hp) ck5 sh0 q2_90 q2_92 qs11 q1_1 q2_93 hd_X5_showPair ⟨Nat.le_of_ble_eq_true rfl, Nat.le_of_ble_eq_true rfl⟩ ⟨rfl, rfl⟩ rfl hl.1 rfl (Nat.le_of_ble_eq_true rfl) dX5_pair_30 ⟨Nat.zero_le _, Nat.zero_le _⟩) (fun  I1 H locs hpo hH => ?_)
      have hq := hq  I1 hpo
      refine lv_iload_n hx hb dX5_pair_33 rfl (lv_at hl 3 rfl) ?_
      by_cases hc0 : x3 = (0 : Int32)
      · have hq := hq.1 hc0
        refine lv_tableIn (tgt := 64) hx hb dX5_pair_34 (by rw [hc0]; decide) (by rw [hc0]; decide) (by rw [hc0]; rfl) (by decide) ?_
        refine lv_aload_n hx hb dX5_pair_64 rfl (lv_at hl 0 rfl) ?_
        refine w_getr hX hK hH ck5 sh0 6 30 30 fr5_6 rfl q1_184 dX5_pair_65 ?_
        obtain ⟨hp, hq⟩ := hq
        refine w_cIp hH (w_rV (As := []) (rest := []) hX hK hE hH (c_X0_reach (sf5_6 sh0)  _ hp) ck0 (sf5_6 sh0) q1_234 q1_235 q1_236 q1_3 q1_237 hd_X0_reach ⟨Nat.le_of_ble_eq_true rfl, Nat.le_of_ble_eq_true rfl⟩ ⟨rfl, rfl⟩ rfl hl.1 rfl (Nat.le_of_ble_eq_true rfl) dX5_pair_68 ⟨Nat.zero_le _, Nat.zero_le _⟩) (fun r2  H locs hpo hH => ?_)
        have hq := hq r2  hpo
        exact w_eI hX hr hlk hH hq dX5_pair_71
      by_cases hc1 : x3 = (1 : Int32)
      · have hq := hq.2.1 hc1
        refine lv_tableIn (tgt := 72) hx hb dX5_pair_34 (by rw [hc1]; decide) (by rw [hc1]; decide) (by rw [hc1]; rfl) (by decide) ?_
        refine lv_aload_n hx hb dX5_pair_72 rfl (lv_at hl 0 rfl) ?_
        refine w_getr hX hK hH ck5 sh0 6 30 30 fr5_6 rfl q1_184 dX5_pair_73 ?_
        obtain ⟨hp, hq⟩ := hq
        refine w_cIp hH (w_rV (As := []) (rest := []) hX hK hE hH (c_X0_reach (sf5_6 sh0)  _ hp) ck0 (sf5_6 sh0) q1_234 q1_235 q1_236 q1_3 q1_237 hd_X0_reach ⟨Nat.le_of_ble_eq_true rfl, Nat.le_of_ble_eq_true rfl⟩ ⟨rfl, rfl⟩ rfl hl.1 rfl (Nat.le_of_ble_eq_true rfl) dX5_pair_76 ⟨Nat.zero_le _, Nat.zero_le _⟩) (fun r3  H locs hpo hH => ?_)
        have hq := hq r3  hpo
        obtain ⟨hp, hq⟩ := hq
        refine w_cIp hH (w_rS (As := [.int r3]) (rest := []) hX hK hE hH (c_J_bitCount  _ _ hp) q1_238 q1_239 q1_13 q2_0 hd_J_bitCount.2 ⟨Nat.le_of_ble_eq_true rfl, Nat.le_of_ble_eq_true rfl⟩ ⟨rfl, rfl⟩ rfl hl.1 rfl (Nat.le_of_ble_eq_true rfl) dX5_pair_79 ⟨Nat.zero_le _, Nat.zero_le _⟩) (fun r4  H locs hpo hH => ?_)
        have hq := hq r4  hpo
        exact w_eI hX hr hlk hH hq dX5_pair_82
      by_cases hc2 : x3 = (2 : Int32)
      · have hq := hq.2.2.1 hc2
        refine lv_tableIn (tgt := 83) hx hb dX5_pair_34 (by rw [hc2]; decide) (by rw [hc2]; decide) (by rw [hc2]; rfl) (by decide) ?_
        refine lv_aload_n hx hb dX5_pair_83 rfl (lv_at hl 0 rfl) ?_
        obtain ⟨hp, hq⟩ := hq
        refine w_cI hH (w_rV (As := []) (rest := []) hX hK hE hH (c_X5_periodByDoing   _ hp) ck5 sh0 q3_50 q3_52 qs16 q1_1 q3_53 hd_X5_periodByDoing ⟨Nat.le_of_ble_eq_true rfl, Nat.le_of_ble_eq_true rfl⟩ ⟨rfl, rfl⟩ rfl hl.1 rfl (Nat.le_of_ble_eq_true rfl) dX5_pair_84 ⟨Nat.zero_le _, Nat.zero_le _⟩) (fun r5 I6 H locs hpo hH => ?_)
        have hq := hq r5 I6 hpo
        exact w_eI hX hr hlk hH hq dX5_pair_87
      by_cases hc3 : x3 = (3 : Int32)
      · have hq := hq.2.2.2.1 hc3
        refine lv_tableIn (tgt := 88) hx hb dX5_pair_34 (by rw [hc3]; decide) (by rw [hc3]; decide) (by rw [hc3]; rfl) (by decide) ?_
        refine lv_aload_n hx hb dX5_pair_88 rfl (lv_at hl 0 rfl) ?_
        refine w_getr hX hK hH ck5 sh0 6 30 30 fr5_6 rfl q1_184 dX5_pair_89 ?_
        obtain ⟨hp, hq⟩ := hq
        refine w_cIp hH (w_rV (As := []) (rest := []) hX hK hE hH (c_X0_periodByRounds (sf5_6 sh0)  _ hp) ck0 (sf5_6 sh0) q3_59 q3_60 q3_61 q1_3 q3_62 hd_X0_periodByRounds ⟨Nat.le_of_ble_eq_true rfl, Nat.le_of_ble_eq_true rfl⟩ ⟨rfl, rfl⟩ rfl hl.1 rfl (Nat.le_of_ble_eq_true rfl) dX5_pair_92 ⟨Nat.zero_le _, Nat.zero_le _⟩) (fun r7  H locs hpo hH => ?_)
        have hq := hq r7  hpo
        exact w_eI hX hr hlk hH hq dX5_pair_95
      have hq := hq.2.2.2.2 ⟨hc0, hc1, hc2, hc3⟩
      have he0 := w_toInt_ne hc0
      have he1 := w_toInt_ne hc1
      have he2 := w_toInt_ne hc2
      have he3 := w_toInt_ne hc3
      refine lv_tableOut (tgt := 96) hx hb dX5_pair_34 (w_swOut0_3 hc0 hc1 hc2 hc3) (by decide) ?_
      refine lv_aload_n hx hb dX5_pair_96 rfl (lv_at hl 0 rfl) ?_
      refine w_getr hX hK hH ck5 sh0 6 30 30 fr5_6 rfl q1_184 dX5_pair_97 ?_
      obtain ⟨hp, hq⟩ := hq
      refine w_cIp hH (w_rV (As := []) (rest := []) hX hK hE hH (c_X0_reach (sf5_6 sh0)  _ hp) ck0 (sf5_6 sh0) q1_234 q1_235 q1_236 q1_3 q1_237 hd_X0_reach ⟨Nat.le_of_ble_eq_true rfl, Nat.le_of_ble_eq_true rfl⟩ ⟨rfl, rfl⟩ rfl hl.1 rfl (Nat.le_of_ble_eq_true rfl) dX5_pair_100 ⟨Nat.zero_le _, Nat.zero_le _⟩) (fun r8  H locs hpo hH => ?_)
      have hq := hq r8  hpo
      refine lv_if_ne (tgt := 110) hx hb dX5_pair_103 (by decide) (fun hc => ?_) (fun hc => ?_)
      · have hq := hq.1 hc
        refine lv_iconst (v := 0) hx hb dX5_pair_110 (by decide) ?_
        exact s_X5_pair_111  C0  (0 : Int32) _ _ _ _ hq hH (lv_sub hl [] rfl)
      · have hq := hq.2 hc
        refine lv_iconst (v := 1) hx hb dX5_pair_106 (by decide) ?_
        refine lv_goto (tgt := 111) hx hb dX5_pair_107 (by decide) ?_
        exact s_X5_pair_111  C0  (1 : Int32) _ _ _ _ hq hH (lv_sub hl [] rfl)
    · have hq := hq.2 hc
      exact s_X5_pair_17  C0   _ _ _ _ hq hH (lv_sub hl [] rfl)
abbrev rm_X5_pairx : Room := { frames := 9, cells := 1, slots := 6, locals := 140 }

set_option maxRecDepth 100000 in
set_option maxHeartbeats 4000000 in
theorem s_X5_pairx_111 {x1 : Int32} {x2 : Int32} {x3 : Int32} {X : String → wI → Prop} (hst : l.stackTraces = false) (hEx : ∀ x ∈ c.exceptionTable.toList, False) (C0 : wCx p m c s args meth cX5_pair 4 RX5 (some .int) D cs ad b) : ∀ (t0 : Int32) (I : wI) (H : Heap) (locs : List Loc) (ls : Array Slot), v_X5_pairx_111 x1 x2 x3 X t0 I → wH D cs b G I s H locs → lv_has ls 4 [] → W p l e rm_X5_pairx s m args below meth c H locs 0 0 (vx_MQ below (va_Qi (fun (_ : Int32) (_ : wI) => False) (wPo D cs b G) (fun q => b ≤ q)) (wXC D cs b G X) args s 1 6 (fun q => b ≤ q)) (F0 m 111 ls [.int t0]) := by
  obtain ⟨hX, hr, hlk, hK, hE⟩ := id C0
  have hx := hX.1
  have hb := hX.2.1
  have hown := hX.2.2.2.1
  have hts := hX.2.2.2.2
  intro t0 I H locs ls hq hH hl
  unfold v_X5_pairx_111 at hq
  exact hq.elim
set_option maxRecDepth 100000 in
set_option maxHeartbeats 4000000 in
theorem s_X5_pairx_17 {x1 : Int32} {x2 : Int32} {x3 : Int32} {X : String → wI → Prop} (hst : l.stackTraces = false) (hEx : ∀ x ∈ c.exceptionTable.toList, False) (C0 : wCx p m c s args meth cX5_pair 4 RX5 (some .int) D cs ad b) : ∀  (I : wI) (H : Heap) (locs : List Loc) (ls : Array Slot), v_X5_pairx_17 x1 x2 x3 X  I → wH D cs b G I s H locs → lv_has ls 4 [] → W p l e rm_X5_pairx s m args below meth c H locs 0 0 (vx_MQ below (va_Qi (fun (_ : Int32) (_ : wI) => False) (wPo D cs b G) (fun q => b ≤ q)) (wXC D cs b G X) args s 1 6 (fun q => b ≤ q)) (F0 m 17 ls []) := by
  obtain ⟨hX, hr, hlk, hK, hE⟩ := id C0
  have hx := hX.1
  have hb := hX.2.1
  have hown := hX.2.2.2.1
  have hts := hX.2.2.2.2
  intro  I H locs ls hq hH hl
  unfold v_X5_pairx_17 at hq
  exact w_throw th_X5_66_190_70 hX hst hlk hEx hE hH hl.1 dX5_pair_17 dX5_pair_20 dX5_pair_21 dX5_pair_23 dX5_pair_26 ⟨Nat.le_of_ble_eq_true rfl, Nat.le_of_ble_eq_true rfl, Nat.le_of_ble_eq_true rfl, Nat.le_of_ble_eq_true rfl⟩ hq
set_option maxRecDepth 100000 in
set_option maxHeartbeats 4000000 in
theorem c_X5_pairx {l : Launch} {D : va_G} {cs : wC4} {ad : Nat → Nat} {b : Nat} {G : wG} (hst : l.stackTraces = false) (x1 : Int32) (x2 : Int32) (x3 : Int32) (I : wI) (hp : pre_X5_pairx x1 x2 x3 I) : vx_Met l yX5_pair (ws_ yX5_pair cX5_pair 4 (some .int)) rm_X5_pairx (va_Pc [.ref (b + 0), .int x1, .int x2, .int x3] (wPr D cs ad b G I)) (va_Qi (fun (_ : Int32) (_ : wI) => False) (wPo D cs b G) (fun q => b ≤ q)) (wXC D cs b G (exc_X5_pair x1 x2 x3 I)) 1 6 (fun q => b ≤ q) := by
  have hq := vc_X5_pairx x1 x2 x3 I hp
  refine w_metx (by decide) (Nat.le_of_ble_eq_true rfl) ?_
  intro p e s m below meth c hX hr hlk hEx hK hE hH ls hl
  have C0 : wCx p m c s _ meth cX5_pair 4 RX5 (some .int) D cs ad b := ⟨hX, hr, hlk, hK, hE⟩
  have hX : CallFix p m c cX5_pair 4 s _ lw_all RX5 := hX
  have hx := hX.1
  have hb := hX.2.1
  have hown := hX.2.2.2.1
  have hts := hX.2.2.2.2
  have hl : lv_has ls 4 [(0, .ref (b + 0)), (1, .int x1), (2, .int x2), (3, .int x3)] := hl
  unfold v_X5_pairx at hq
  refine lv_iload_n hx hb dX5_pair_0 rfl (lv_at hl 1 rfl) ?_
  by_cases hok : ok_X5_requireKey x1 I
  · have hq := hq.1 hok
    obtain ⟨hp, hq⟩ := hq
    refine w_cVp hH (w_rS (As := [.int x1]) (rest := []) hX hK hE hH (c_X5_requireKey  _ _ hp) q3_40 q3_41 q1_1 q3_42 hd_X5_requireKey.2 ⟨Nat.le_of_ble_eq_true rfl, Nat.le_of_ble_eq_true rfl⟩ ⟨rfl, rfl⟩ rfl hl.1 rfl (Nat.le_of_ble_eq_true rfl) dX5_pair_1 ⟨Nat.zero_le _, Nat.zero_le _⟩) (fun   H locs hpo hH => ?_)
    have hq := hq   hpo
    refine lv_iload_n hx hb dX5_pair_4 rfl (lv_at hl 2 rfl) ?_
    by_cases hok : ok_X5_requireKey x2 I
    · have hq := hq.1 hok
      obtain ⟨hp, hq⟩ := hq
      refine w_cVp hH (w_rS (As := [.int x2]) (rest := []) hX hK hE hH (c_X5_requireKey  _ _ hp) q3_40 q3_41 q1_1 q3_42 hd_X5_requireKey.2 ⟨Nat.le_of_ble_eq_true rfl, Nat.le_of_ble_eq_true rfl⟩ ⟨rfl, rfl⟩ rfl hl.1 rfl (Nat.le_of_ble_eq_true rfl) dX5_pair_5 ⟨Nat.zero_le _, Nat.zero_le _⟩) (fun   H locs hpo hH => ?_)
      have hq := hq   hpo
      refine lv_iload_n hx hb dX5_pair_8 rfl (lv_at hl 3 rfl) ?_
      refine lv_if_lt (tgt := 17) hx hb dX5_pair_9 (by decide) (fun hc => ?_) (fun hc => ?_)
      · have hq := hq.1 hc
        exact s_X5_pairx_17 hst hEx C0   _ _ _ _ hq hH (lv_sub hl [] rfl)
      · have hq := hq.2 hc
        refine lv_iload_n hx hb dX5_pair_12 rfl (lv_at hl 3 rfl) ?_
        refine lv_iconst (v := 4) hx hb dX5_pair_13 (by decide) ?_
        refine lv_icmp_le (tgt := 27) hx hb dX5_pair_14 (by decide) (fun hc => ?_) (fun hc => ?_)
        · have hq := hq.1 hc
          refine lv_aload_n hx hb dX5_pair_27 rfl (lv_at hl 0 rfl) ?_
          refine lv_iload_n hx hb dX5_pair_28 rfl (lv_at hl 1 rfl) ?_
          refine lv_iload_n hx hb dX5_pair_29 rfl (lv_at hl 2 rfl) ?_
          obtain ⟨hp, hq⟩ := hq
          refine w_cV hH (w_rV (As := [.int x1, .int x2]) (rest := []) hX hK hE hH (c_X5_showPair  _ _ _ hp) ck5 sh0 q2_90 q2_92 qs11 q1_1 q2_93 hd_X5_showPair ⟨Nat.le_of_ble_eq_true rfl, Nat.le_of_ble_eq_true rfl⟩ ⟨rfl, rfl⟩ rfl hl.1 rfl (Nat.le_of_ble_eq_true rfl) dX5_pair_30 ⟨Nat.zero_le _, Nat.zero_le _⟩) (fun  I1 H locs hpo hH => ?_)
          have hq := hq  I1 hpo
          refine lv_iload_n hx hb dX5_pair_33 rfl (lv_at hl 3 rfl) ?_
          by_cases hc0 : x3 = (0 : Int32)
          · have hq := hq.1 hc0
            refine lv_tableIn (tgt := 64) hx hb dX5_pair_34 (by rw [hc0]; decide) (by rw [hc0]; decide) (by rw [hc0]; rfl) (by decide) ?_
            refine lv_aload_n hx hb dX5_pair_64 rfl (lv_at hl 0 rfl) ?_
            refine w_getr hX hK hH ck5 sh0 6 30 30 fr5_6 rfl q1_184 dX5_pair_65 ?_
            obtain ⟨hp, hq⟩ := hq
            refine w_cIp hH (w_rV (As := []) (rest := []) hX hK hE hH (c_X0_reach (sf5_6 sh0)  _ hp) ck0 (sf5_6 sh0) q1_234 q1_235 q1_236 q1_3 q1_237 hd_X0_reach ⟨Nat.le_of_ble_eq_true rfl, Nat.le_of_ble_eq_true rfl⟩ ⟨rfl, rfl⟩ rfl hl.1 rfl (Nat.le_of_ble_eq_true rfl) dX5_pair_68 ⟨Nat.zero_le _, Nat.zero_le _⟩) (fun r2  H locs hpo hH => ?_)
            have hq := hq r2  hpo
            exact hq.elim
          by_cases hc1 : x3 = (1 : Int32)
          · have hq := hq.2.1 hc1
            refine lv_tableIn (tgt := 72) hx hb dX5_pair_34 (by rw [hc1]; decide) (by rw [hc1]; decide) (by rw [hc1]; rfl) (by decide) ?_
            refine lv_aload_n hx hb dX5_pair_72 rfl (lv_at hl 0 rfl) ?_
            refine w_getr hX hK hH ck5 sh0 6 30 30 fr5_6 rfl q1_184 dX5_pair_73 ?_
            obtain ⟨hp, hq⟩ := hq
            refine w_cIp hH (w_rV (As := []) (rest := []) hX hK hE hH (c_X0_reach (sf5_6 sh0)  _ hp) ck0 (sf5_6 sh0) q1_234 q1_235 q1_236 q1_3 q1_237 hd_X0_reach ⟨Nat.le_of_ble_eq_true rfl, Nat.le_of_ble_eq_true rfl⟩ ⟨rfl, rfl⟩ rfl hl.1 rfl (Nat.le_of_ble_eq_true rfl) dX5_pair_76 ⟨Nat.zero_le _, Nat.zero_le _⟩) (fun r3  H locs hpo hH => ?_)
            have hq := hq r3  hpo
            obtain ⟨hp, hq⟩ := hq
            refine w_cIp hH (w_rS (As := [.int r3]) (rest := []) hX hK hE hH (c_J_bitCount  _ _ hp) q1_238 q1_239 q1_13 q2_0 hd_J_bitCount.2 ⟨Nat.le_of_ble_eq_true rfl, Nat.le_of_ble_eq_true rfl⟩ ⟨rfl, rfl⟩ rfl hl.1 rfl (Nat.le_of_ble_eq_true rfl) dX5_pair_79 ⟨Nat.zero_le _, Nat.zero_le _⟩) (fun r4  H locs hpo hH => ?_)
            have hq := hq r4  hpo
            exact hq.elim
          by_cases hc2 : x3 = (2 : Int32)
          · have hq := hq.2.2.1 hc2
            refine lv_tableIn (tgt := 83) hx hb dX5_pair_34 (by rw [hc2]; decide) (by rw [hc2]; decide) (by rw [hc2]; rfl) (by decide) ?_
            refine lv_aload_n hx hb dX5_pair_83 rfl (lv_at hl 0 rfl) ?_
            obtain ⟨hp, hq⟩ := hq
            refine w_cI hH (w_rV (As := []) (rest := []) hX hK hE hH (c_X5_periodByDoing   _ hp) ck5 sh0 q3_50 q3_52 qs16 q1_1 q3_53 hd_X5_periodByDoing ⟨Nat.le_of_ble_eq_true rfl, Nat.le_of_ble_eq_true rfl⟩ ⟨rfl, rfl⟩ rfl hl.1 rfl (Nat.le_of_ble_eq_true rfl) dX5_pair_84 ⟨Nat.zero_le _, Nat.zero_le _⟩) (fun r5 I6 H locs hpo hH => ?_)
            have hq := hq r5 I6 hpo
            exact hq.elim
          by_cases hc3 : x3 = (3 : Int32)
          · have hq := hq.2.2.2.1 hc3
            refine lv_tableIn (tgt := 88) hx hb dX5_pair_34 (by rw [hc3]; decide) (by rw [hc3]; decide) (by rw [hc3]; rfl) (by decide) ?_
            refine lv_aload_n hx hb dX5_pair_88 rfl (lv_at hl 0 rfl) ?_
            refine w_getr hX hK hH ck5 sh0 6 30 30 fr5_6 rfl q1_184 dX5_pair_89 ?_
            obtain ⟨hp, hq⟩ := hq
            refine w_cIp hH (w_rV (As := []) (rest := []) hX hK hE hH (c_X0_periodByRounds (sf5_6 sh0)  _ hp) ck0 (sf5_6 sh0) q3_59 q3_60 q3_61 q1_3 q3_62 hd_X0_periodByRounds ⟨Nat.le_of_ble_eq_true rfl, Nat.le_of_ble_eq_true rfl⟩ ⟨rfl, rfl⟩ rfl hl.1 rfl (Nat.le_of_ble_eq_true rfl) dX5_pair_92 ⟨Nat.zero_le _, Nat.zero_le _⟩) (fun r7  H locs hpo hH => ?_)
            have hq := hq r7  hpo
            exact hq.elim
          have hq := hq.2.2.2.2 ⟨hc0, hc1, hc2, hc3⟩
          have he0 := w_toInt_ne hc0
          have he1 := w_toInt_ne hc1
          have he2 := w_toInt_ne hc2
          have he3 := w_toInt_ne hc3
          refine lv_tableOut (tgt := 96) hx hb dX5_pair_34 (w_swOut0_3 hc0 hc1 hc2 hc3) (by decide) ?_
          refine lv_aload_n hx hb dX5_pair_96 rfl (lv_at hl 0 rfl) ?_
          refine w_getr hX hK hH ck5 sh0 6 30 30 fr5_6 rfl q1_184 dX5_pair_97 ?_
          obtain ⟨hp, hq⟩ := hq
          refine w_cIp hH (w_rV (As := []) (rest := []) hX hK hE hH (c_X0_reach (sf5_6 sh0)  _ hp) ck0 (sf5_6 sh0) q1_234 q1_235 q1_236 q1_3 q1_237 hd_X0_reach ⟨Nat.le_of_ble_eq_true rfl, Nat.le_of_ble_eq_true rfl⟩ ⟨rfl, rfl⟩ rfl hl.1 rfl (Nat.le_of_ble_eq_true rfl) dX5_pair_100 ⟨Nat.zero_le _, Nat.zero_le _⟩) (fun r8  H locs hpo hH => ?_)
          have hq := hq r8  hpo
          refine lv_if_ne (tgt := 110) hx hb dX5_pair_103 (by decide) (fun hc => ?_) (fun hc => ?_)
          · have hq := hq.1 hc
            refine lv_iconst (v := 0) hx hb dX5_pair_110 (by decide) ?_
            exact s_X5_pairx_111 hst hEx C0  (0 : Int32) _ _ _ _ hq hH (lv_sub hl [] rfl)
          · have hq := hq.2 hc
            refine lv_iconst (v := 1) hx hb dX5_pair_106 (by decide) ?_
            refine lv_goto (tgt := 111) hx hb dX5_pair_107 (by decide) ?_
            exact s_X5_pairx_111 hst hEx C0  (1 : Int32) _ _ _ _ hq hH (lv_sub hl [] rfl)
        · have hq := hq.2 hc
          exact s_X5_pairx_17 hst hEx C0   _ _ _ _ hq hH (lv_sub hl [] rfl)
    · have hq := hq.2 hok
      obtain ⟨hp, hq⟩ := hq
      exact w_xV hEx hlk hH (w_xrS (As := [.int x2]) (rest := []) hX hK hE hH (c_X5_requireKeyx hst  _ _ hp) q3_40 q3_41 q1_1 q3_42 hd_X5_requireKey.2 ⟨Nat.le_of_ble_eq_true rfl, Nat.le_of_ble_eq_true rfl⟩ ⟨rfl, rfl⟩ rfl hl.1 rfl (Nat.le_of_ble_eq_true rfl) dX5_pair_5 ⟨Nat.le_of_ble_eq_true rfl, Nat.le_of_ble_eq_true rfl⟩) (fun E u h => by obtain ⟨h1, h2⟩ := h; subst h1; exact hq E h2)
  · have hq := hq.2 hok
    obtain ⟨hp, hq⟩ := hq
    exact w_xV hEx hlk hH (w_xrS (As := [.int x1]) (rest := []) hX hK hE hH (c_X5_requireKeyx hst  _ _ hp) q3_40 q3_41 q1_1 q3_42 hd_X5_requireKey.2 ⟨Nat.le_of_ble_eq_true rfl, Nat.le_of_ble_eq_true rfl⟩ ⟨rfl, rfl⟩ rfl hl.1 rfl (Nat.le_of_ble_eq_true rfl) dX5_pair_1 ⟨Nat.le_of_ble_eq_true rfl, Nat.le_of_ble_eq_true rfl⟩) (fun E u h => by obtain ⟨h1, h2⟩ := h; subst h1; exact hq E h2)
abbrev rm_J_min : Room := { frames := 0, cells := 0, slots := 0, locals := 0 }
theorem hd_J_min : yJ9_min_7cf53.cls = RJ9 ∧ yJ9_min_7cf53.cls ≠ "java/lang/invoke/MethodHandle" ∧ yJ9_min_7cf53.cls ≠ "java/lang/invoke/VarHandle" ∧ (parseMethodDescriptor yJ9_min_7cf53.desc).map (fun d => d.parameters.length) = some 2 := by decide +kernel
set_option maxRecDepth 100000 in
set_option maxHeartbeats 4000000 in
theorem s_J_min_10 {x0 : Int32} {x1 : Int32} {I : wI} {Q : Int32 → Prop} (C0 : wCx p m c s args meth cJ9_min_7cf53 2 RJ9 (some .int) D cs ad b) : ∀ (t0 : Int32) (H : Heap) (locs : List Loc) (ls : Array Slot), v_J_min_10 x0 x1 I Q t0 → wH D cs b G I s H locs → lv_has ls 2 [] → W p l e rm_J_min s m args below meth c H locs 0 0 (MQ below (va_Qi (fun r I' => I' = I ∧ Q r) (wPo D cs b G) (fun q => b ≤ q)) args s 0 0 (fun q => b ≤ q)) (F0 m 10 ls [.int t0]) := by
  obtain ⟨hX, hr, hlk, hK, hE⟩ := id C0
  have hx := hX.1
  have hb := hX.2.1
  have hown := hX.2.2.2.1
  have hts := hX.2.2.2.2
  intro t0 H locs ls hq hH hl
  unfold v_J_min_10 at hq
  exact w_eI hX hr hlk hH ⟨rfl, hq⟩ dJ9_min_7cf53_10
set_option maxRecDepth 100000 in
set_option maxHeartbeats 4000000 in
theorem c_J_min {l : Launch} {D : va_G} {cs : wC4} {ad : Nat → Nat} {b : Nat} {G : wG} (x0 : Int32) (x1 : Int32) (I : wI) (hp : pre_J_min x0 x1 I) : Met l yJ9_min_7cf53 (ws_ yJ9_min_7cf53 cJ9_min_7cf53 2 (some .int)) rm_J_min (va_Pc [.int x0, .int x1] (wPr D cs ad b G I)) (va_Qi (fun r I' => I' = I ∧ post_J_min x0 x1 I r) (wPo D cs b G) (fun q => b ≤ q)) 0 0 (fun q => b ≤ q) := by
  have hq := vc_J_min x0 x1 I hp
  refine w_metF (by decide +kernel) (Nat.le_of_ble_eq_true rfl) ?_
  intro p e s m below meth c hX hr hlk hK hE hH ls hl
  have C0 : wCx p m c s _ meth cJ9_min_7cf53 2 RJ9 (some .int) D cs ad b := ⟨hX, hr, hlk, hK, hE⟩
  have hX : CallFix p m c cJ9_min_7cf53 2 s _ lw_all RJ9 := hX
  have hx := hX.1
  have hb := hX.2.1
  have hown := hX.2.2.2.1
  have hts := hX.2.2.2.2
  have hl : lv_has ls 2 [(0, .int x0), (1, .int x1)] := hl
  unfold v_J_min at hq
  refine lv_iload_n hx hb dJ9_min_7cf53_0 rfl (lv_at hl 0 rfl) ?_
  refine lv_iload_n hx hb dJ9_min_7cf53_1 rfl (lv_at hl 1 rfl) ?_
  refine lv_icmp_gt (tgt := 9) hx hb dJ9_min_7cf53_2 (by decide) (fun hc => ?_) (fun hc => ?_)
  · have hq := hq.1 hc
    refine lv_iload_n hx hb dJ9_min_7cf53_9 rfl (lv_at hl 1 rfl) ?_
    exact s_J_min_10  C0  x1 _ _ _ hq hH (lv_sub hl [] rfl)
  · have hq := hq.2 hc
    refine lv_iload_n hx hb dJ9_min_7cf53_5 rfl (lv_at hl 0 rfl) ?_
    refine lv_goto (tgt := 10) hx hb dJ9_min_7cf53_6 (by decide) ?_
    exact s_J_min_10  C0  x0 _ _ _ hq hH (lv_sub hl [] rfl)
abbrev rm_X4_turnsLessBacks : Room := { frames := 1, cells := 0, slots := 0, locals := 20 }
theorem hd_X4_turnsLessBacks : yX4_turnsLessBacks.cls = RX4 ∧ yX4_turnsLessBacks.cls ≠ "java/lang/invoke/MethodHandle" ∧ yX4_turnsLessBacks.cls ≠ "java/lang/invoke/VarHandle" ∧ (parseMethodDescriptor yX4_turnsLessBacks.desc).map (fun d => d.parameters.length) = some 0 := by decide +kernel
set_option maxRecDepth 100000 in
set_option maxHeartbeats 4000000 in
theorem s_X4_turnsLessBacks_45 {k : Nat} {I : wI} {Q : Int32 → Prop} (hs : wSh k = (0, 4)) (C0 : wCx p m c s args meth cX4_turnsLessBacks 3 RX4 (some .int) D cs ad b) : ∀ (v1 : Int32) (H : Heap) (locs : List Loc) (ls : Array Slot), v_X4_turnsLessBacks_45 k I Q v1 → wH D cs b G I s H locs → lv_has ls 3 [(1, .int v1)] → W p l e rm_X4_turnsLessBacks s m args below meth c H locs 0 0 (MQ below (va_Qi (fun r I' => I' = I ∧ Q r) (wPo D cs b G) (fun q => b ≤ q)) args s 0 0 (fun q => b ≤ q)) (F0 m 45 ls []) := by
  obtain ⟨hX, hr, hlk, hK, hE⟩ := id C0
  have hx := hX.1
  have hb := hX.2.1
  have hown := hX.2.2.2.1
  have hts := hX.2.2.2.2
  intro v1 H locs ls hq hH hl
  unfold v_X4_turnsLessBacks_45 at hq
  refine lv_iload_n hx hb dX4_turnsLessBacks_45 rfl (lv_at hl 0 rfl) ?_
  exact w_eI hX hr hlk hH ⟨rfl, hq⟩ dX4_turnsLessBacks_46
set_option maxRecDepth 100000 in
set_option maxHeartbeats 4000000 in
theorem s_X4_turnsLessBacks_37 {k : Nat} {I : wI} {Q : Int32 → Prop} {K4 : Int32 → Int32 → Prop} (hs : wSh k = (0, 4)) (C0 : wCx p m c s args meth cX4_turnsLessBacks 3 RX4 (some .int) D cs ad b) (hK4 : ∀ (v1 : Int32) (v2 : Int32) (H : Heap) (locs : List Loc) (ls : Array Slot), K4 v1 v2 → wH D cs b G I s H locs → lv_has ls 3 [(0, .ref (b + k)), (1, .int v1), (2, .int v2)] → W p l e rm_X4_turnsLessBacks s m args below meth c H locs 0 0 (MQ below (va_Qi (fun r I' => I' = I ∧ Q r) (wPo D cs b G) (fun q => b ≤ q)) args s 0 0 (fun q => b ≤ q)) (F0 m 4 ls [])) : ∀ (v2 : Int32) (t0 : Int32) (t1 : Int32) (H : Heap) (locs : List Loc) (ls : Array Slot), v_X4_turnsLessBacks_37 k I Q K4 v2 t0 t1 → wH D cs b G I s H locs → lv_has ls 3 [(0, .ref (b + k)), (2, .int v2)] → W p l e rm_X4_turnsLessBacks s m args below meth c H locs 0 0 (MQ below (va_Qi (fun r I' => I' = I ∧ Q r) (wPo D cs b G) (fun q => b ≤ q)) args s 0 0 (fun q => b ≤ q)) (F0 m 37 ls [.int t0, .int t1]) := by
  obtain ⟨hX, hr, hlk, hK, hE⟩ := id C0
  have hx := hX.1
  have hb := hX.2.1
  have hown := hX.2.2.2.1
  have hts := hX.2.2.2.2
  intro v2 t0 t1 H locs ls hq hH hl
  unfold v_X4_turnsLessBacks_37 at hq
  refine lv_iadd hx hb dX4_turnsLessBacks_37 ?_
  refine lv_istore_n (lv' := [(1, .int (t1 + t0)), (0, .ref (b + k)), (2, .int v2)]) hx hb dX4_turnsLessBacks_38 rfl hl (by decide) rfl (fun ls hl => ?_)
  refine lv_iinc (v := (v2 + (1 : Int32))) (lv' := [(2, .int (v2 + (1 : Int32))), (1, .int (t1 + t0)), (0, .ref (b + k))]) hx hb dX4_turnsLessBacks_39 hl (k := 2) rfl rfl (by decide) rfl (fun ls hl => ?_)
  refine lv_goto (tgt := 4) hx hb dX4_turnsLessBacks_42 (by decide) ?_
  exact hK4 (t1 + t0) (v2 + (1 : Int32)) _ _ _ hq hH (lv_sub hl [2, 1, 0] rfl)
set_option maxRecDepth 100000 in
set_option maxHeartbeats 4000000 in
theorem s_X4_turnsLessBacks_4 {k : Nat} {I : wI} {Q : Int32 → Prop} (hs : wSh k = (0, 4)) (C0 : wCx p m c s args meth cX4_turnsLessBacks 3 RX4 (some .int) D cs ad b) : ∀ (f : Nat) (v1 : Int32) (v2 : Int32) (H : Heap) (locs : List Loc) (ls : Array Slot), v_X4_turnsLessBacks_4 k I Q f v1 v2 → wH D cs b G I s H locs → lv_has ls 3 [(0, .ref (b + k)), (1, .int v1), (2, .int v2)] → W p l e rm_X4_turnsLessBacks s m args below meth c H locs 0 0 (MQ below (va_Qi (fun r I' => I' = I ∧ Q r) (wPo D cs b G) (fun q => b ≤ q)) args s 0 0 (fun q => b ≤ q)) (F0 m 4 ls []) := by
  obtain ⟨hX, hr, hlk, hK, hE⟩ := id C0
  have hx := hX.1
  have hb := hX.2.1
  have hown := hX.2.2.2.1
  have hts := hX.2.2.2.2
  intro f
  induction f with
  | zero =>
    intro v1 v2 H locs ls hq
    exact hq.elim
  | succ f hK4 =>
    intro v1 v2 H locs ls hq hH hl
    have hq : g_X4_turnsLessBacks_4 k I Q (v_X4_turnsLessBacks_4 k I Q f) v1 v2 := hq
    unfold g_X4_turnsLessBacks_4 at hq
    refine lv_iload_n hx hb dX4_turnsLessBacks_4 rfl (lv_at hl 2 rfl) ?_
    refine lv_aload_n hx hb dX4_turnsLessBacks_5 rfl (lv_at hl 0 rfl) ?_
    refine w_geti hX hK hH ck4 hs 3 fi4_3 q1_110 dX4_turnsLessBacks_6 ?_
    refine lv_icmp_ge (tgt := 45) hx hb dX4_turnsLessBacks_9 (by decide) (fun hc => ?_) (fun hc => ?_)
    · have hq := hq.1 hc
      exact s_X4_turnsLessBacks_45 hs C0  v1 _ _ _ hq hH (lv_sub hl [1] rfl)
    · have hq := hq.2 hc
      refine lv_iload_n hx hb dX4_turnsLessBacks_12 rfl (lv_at hl 2 rfl) ?_
      refine lv_sipush (v := 500) hx hb dX4_turnsLessBacks_13 (by decide) ?_
      refine lv_icmp_ge (tgt := 45) hx hb dX4_turnsLessBacks_16 (by decide) (fun hc => ?_) (fun hc => ?_)
      · have hq := hq.1 hc
        exact s_X4_turnsLessBacks_45 hs C0  v1 _ _ _ hq hH (lv_sub hl [1] rfl)
      · have hq := hq.2 hc
        refine lv_iload_n hx hb dX4_turnsLessBacks_19 rfl (lv_at hl 1 rfl) ?_
        refine lv_aload_n hx hb dX4_turnsLessBacks_20 rfl (lv_at hl 0 rfl) ?_
        refine w_getr hX hK hH ck4 hs 2 2 (k + 2) fr4_2 rfl q1_109 dX4_turnsLessBacks_21 ?_
        refine lv_iload_n hx hb dX4_turnsLessBacks_24 rfl (lv_at hl 2 rfl) ?_
        obtain ⟨hc, hq⟩ := hq
        refine w_iald hX hK hH (sf4_2 hs) hc dX4_turnsLessBacks_25 ?_
        obtain ⟨hp, hq⟩ := hq
        refine w_cIp hH (w_rSN (As := [.int (I (k + 2) (v2).toNatClampNeg)]) (rest := [.int v1]) hX hK hE hH (c_X5_isBack  _ _ hp) qn4_50 q2_79 q1_1 q2_80 hd_X5_isBack.2 ⟨Nat.le_of_ble_eq_true rfl, Nat.le_of_ble_eq_true rfl⟩ ⟨rfl, rfl⟩ rfl hl.1 rfl (Nat.le_of_ble_eq_true rfl) dX4_turnsLessBacks_26 ⟨Nat.zero_le _, Nat.zero_le _⟩) (fun r1  H locs hpo hH => ?_)
        have hq := hq r1  hpo
        refine lv_if_eq (tgt := 36) hx hb dX4_turnsLessBacks_29 (by decide) (fun hc => ?_) (fun hc => ?_)
        · have hq := hq.1 hc
          refine lv_iconst (v := 1) hx hb dX4_turnsLessBacks_36 (by decide) ?_
          exact s_X4_turnsLessBacks_37 hs C0 hK4 v2 (1 : Int32) v1 _ _ _ hq hH (lv_sub hl [0, 2] rfl)
        · have hq := hq.2 hc
          refine lv_iconst (v := -1) hx hb dX4_turnsLessBacks_32 (by decide) ?_
          refine lv_goto (tgt := 37) hx hb dX4_turnsLessBacks_33 (by decide) ?_
          exact s_X4_turnsLessBacks_37 hs C0 hK4 v2 (-1 : Int32) v1 _ _ _ hq hH (lv_sub hl [0, 2] rfl)
set_option maxRecDepth 100000 in
set_option maxHeartbeats 4000000 in
theorem c_X4_turnsLessBacks {l : Launch} {D : va_G} {cs : wC4} {ad : Nat → Nat} {b : Nat} {G : wG} {k : Nat} (hs : wSh k = (0, 4))  (I : wI) (hp : pre_X4_turnsLessBacks k I) : Met l yX4_turnsLessBacks (ws_ yX4_turnsLessBacks cX4_turnsLessBacks 3 (some .int)) rm_X4_turnsLessBacks (va_Pc [.ref (b + k)] (wPr D cs ad b G I)) (va_Qi (fun r I' => I' = I ∧ post_X4_turnsLessBacks k I r) (wPo D cs b G) (fun q => b ≤ q)) 0 0 (fun q => b ≤ q) := by
  have hq := vc_X4_turnsLessBacks k I hp
  refine w_met (by decide) (Nat.le_of_ble_eq_true rfl) ?_
  intro p e s m below meth c hX hr hlk hK hE hH ls hl
  have C0 : wCx p m c s _ meth cX4_turnsLessBacks 3 RX4 (some .int) D cs ad b := ⟨hX, hr, hlk, hK, hE⟩
  have hX : CallFix p m c cX4_turnsLessBacks 3 s _ lw_all RX4 := hX
  have hx := hX.1
  have hb := hX.2.1
  have hown := hX.2.2.2.1
  have hts := hX.2.2.2.2
  have hl : lv_has ls 3 [(0, .ref (b + k))] := hl
  unfold v_X4_turnsLessBacks at hq
  refine lv_iconst (v := 0) hx hb dX4_turnsLessBacks_0 (by decide) ?_
  refine lv_istore_n (lv' := [(1, .int (0 : Int32)), (0, .ref (b + k))]) hx hb dX4_turnsLessBacks_1 rfl hl (by decide) rfl (fun ls hl => ?_)
  refine lv_iconst (v := 0) hx hb dX4_turnsLessBacks_2 (by decide) ?_
  refine lv_istore_n (lv' := [(2, .int (0 : Int32)), (1, .int (0 : Int32)), (0, .ref (b + k))]) hx hb dX4_turnsLessBacks_3 rfl hl (by decide) rfl (fun ls hl => ?_)
  obtain ⟨f, hq⟩ := hq
  exact s_X4_turnsLessBacks_4 hs C0  f (0 : Int32) (0 : Int32) _ _ _ hq hH (lv_sub hl [2, 1, 0] rfl)
abbrev rm_X5_showWord : Room := { frames := 2, cells := 0, slots := 0, locals := 54 }
theorem hd_X5_showWord : yX5_showWord.cls = RX5 ∧ yX5_showWord.cls ≠ "java/lang/invoke/MethodHandle" ∧ yX5_showWord.cls ≠ "java/lang/invoke/VarHandle" ∧ (parseMethodDescriptor yX5_showWord.desc).map (fun d => d.parameters.length) = some 0 := by decide +kernel
set_option maxRecDepth 100000 in
set_option maxHeartbeats 4000000 in
theorem s_X5_showWord_55 {Q : wI → Prop} (C0 : wCx p m c s args meth cX5_showWord 2 RX5 none D cs ad b) : ∀  (I : wI) (H : Heap) (locs : List Loc) (ls : Array Slot), v_X5_showWord_55 Q  I → wH D cs b G I s H locs → lv_has ls 2 [] → W p l e rm_X5_showWord s m args below meth c H locs 0 0 (MQ below (va_Qv (Q) (wPo D cs b G) (fun q => b ≤ q)) args s 0 0 (fun q => b ≤ q)) (F0 m 55 ls []) := by
  obtain ⟨hX, hr, hlk, hK, hE⟩ := id C0
  have hx := hX.1
  have hb := hX.2.1
  have hown := hX.2.2.2.1
  have hts := hX.2.2.2.2
  intro  I H locs ls hq hH hl
  unfold v_X5_showWord_55 at hq
  exact w_eV hX hr hlk hH hq dX5_showWord_55
set_option maxRecDepth 100000 in
set_option maxHeartbeats 4000000 in
theorem s_X5_showWord_9 {Q : wI → Prop} (C0 : wCx p m c s args meth cX5_showWord 2 RX5 none D cs ad b) : ∀ (f : Nat) (v1 : Int32) (I : wI) (H : Heap) (locs : List Loc) (ls : Array Slot), v_X5_showWord_9 Q f v1 I → wH D cs b G I s H locs → lv_has ls 2 [(0, .ref (b + 0)), (1, .int v1)] → W p l e rm_X5_showWord s m args below meth c H locs 0 0 (MQ below (va_Qv (Q) (wPo D cs b G) (fun q => b ≤ q)) args s 0 0 (fun q => b ≤ q)) (F0 m 9 ls []) := by
  obtain ⟨hX, hr, hlk, hK, hE⟩ := id C0
  have hx := hX.1
  have hb := hX.2.1
  have hown := hX.2.2.2.1
  have hts := hX.2.2.2.2
  intro f
  induction f with
  | zero =>
    intro v1 I H locs ls hq
    exact hq.elim
  | succ f hK9 =>
    intro v1 I H locs ls hq hH hl
    have hq : g_X5_showWord_9 Q (v_X5_showWord_9 Q f) v1 I := hq
    unfold g_X5_showWord_9 at hq
    refine lv_iload_n hx hb dX5_showWord_9 rfl (lv_at hl 1 rfl) ?_
    refine lv_aload_n hx hb dX5_showWord_10 rfl (lv_at hl 0 rfl) ?_
    refine w_getr hX hK hH ck5 sh0 5 24 24 fr5_5 rfl q1_183 dX5_showWord_11 ?_
    refine w_getiN hX hK hE hH ck4 (sf5_5 sh0) 3 fi4_3 qn1_111 dX5_showWord_14 ?_
    refine lv_icmp_ge (tgt := 55) hx hb dX5_showWord_17 (by decide) (fun hc => ?_) (fun hc => ?_)
    · have hq := hq.1 hc
      exact s_X5_showWord_55  C0   _ _ _ _ hq hH (lv_sub hl [] rfl)
    · have hq := hq.2 hc
      refine lv_iload_n hx hb dX5_showWord_20 rfl (lv_at hl 1 rfl) ?_
      refine lv_sipush (v := 500) hx hb dX5_showWord_21 (by decide) ?_
      refine lv_icmp_ge (tgt := 55) hx hb dX5_showWord_24 (by decide) (fun hc => ?_) (fun hc => ?_)
      · have hq := hq.1 hc
        exact s_X5_showWord_55  C0   _ _ _ _ hq hH (lv_sub hl [] rfl)
      · have hq := hq.2 hc
        refine lv_aload_n hx hb dX5_showWord_27 rfl (lv_at hl 0 rfl) ?_
        refine w_getr hX hK hH ck5 sh0 0 1 1 fr5_0 rfl q1_178 dX5_showWord_28 ?_
        refine w_getrN hX hK hE hH ck3 (sf5_0 sh0) 1 4 5 fr3_1 rfl qn1_64 dX5_showWord_31 ?_
        refine lv_aload_n hx hb dX5_showWord_34 rfl (lv_at hl 0 rfl) ?_
        refine w_getr hX hK hH ck5 sh0 6 30 30 fr5_6 rfl q1_184 dX5_showWord_35 ?_
        refine lv_aload_n hx hb dX5_showWord_38 rfl (lv_at hl 0 rfl) ?_
        refine w_getr hX hK hH ck5 sh0 5 24 24 fr5_5 rfl q1_183 dX5_showWord_39 ?_
        refine lv_iload_n hx hb dX5_showWord_42 rfl (lv_at hl 1 rfl) ?_
        obtain ⟨hp, hq⟩ := hq
        refine w_cIp hH (w_rV (As := [.int v1]) (rest := [.ref (b + 30), .ref (b + 5)]) hX hK hE hH (c_X4_moveAt (sf5_5 sh0) _ _ hp) ck4 (sf5_5 sh0) q3_208 q2_46 q2_47 q1_5 q2_48 hd_X4_moveAt ⟨Nat.le_of_ble_eq_true rfl, Nat.le_of_ble_eq_true rfl⟩ ⟨rfl, rfl⟩ rfl hl.1 rfl (Nat.le_of_ble_eq_true rfl) dX5_showWord_43 ⟨Nat.zero_le _, Nat.zero_le _⟩) (fun r1  H locs hpo hH => ?_)
        have hq := hq r1  hpo
        obtain ⟨hp, hq⟩ := hq
        refine w_cV hH (w_rV (As := [.ref (b + 30), .int r1]) (rest := []) hX hK hE hH (c_X1_move (sf3_1 (sf5_0 sh0)) (sf5_6 sh0) _ _ hp) ck1 (sf3_1 (sf5_0 sh0)) q2_94 q2_95 q2_96 q1_4 q2_97 hd_X1_move ⟨Nat.le_of_ble_eq_true rfl, Nat.le_of_ble_eq_true rfl⟩ ⟨rfl, rfl⟩ rfl hl.1 rfl (Nat.le_of_ble_eq_true rfl) dX5_showWord_46 ⟨Nat.zero_le _, Nat.zero_le _⟩) (fun  I2 H locs hpo hH => ?_)
        have hq := hq  I2 hpo
        refine lv_iinc (v := (v1 + (1 : Int32))) (lv' := [(1, .int (v1 + (1 : Int32))), (0, .ref (b + 0))]) hx hb dX5_showWord_49 hl (k := 1) rfl rfl (by decide) rfl (fun ls hl => ?_)
        refine lv_goto (tgt := 9) hx hb dX5_showWord_52 (by decide) ?_
        exact hK9 (v1 + (1 : Int32)) _ _ _ _ hq hH (lv_sub hl [1, 0] rfl)
set_option maxRecDepth 100000 in
set_option maxHeartbeats 4000000 in
theorem c_X5_showWord {l : Launch} {D : va_G} {cs : wC4} {ad : Nat → Nat} {b : Nat} {G : wG}  (I : wI) (hp : pre_X5_showWord  I) : Met l yX5_showWord (ws_ yX5_showWord cX5_showWord 2 none) rm_X5_showWord (va_Pc [.ref (b + 0)] (wPr D cs ad b G I)) (va_Qv (fun I' => post_X5_showWord  I I') (wPo D cs b G) (fun q => b ≤ q)) 0 0 (fun q => b ≤ q) := by
  have hq := vc_X5_showWord  I hp
  refine w_met (by decide) (Nat.le_of_ble_eq_true rfl) ?_
  intro p e s m below meth c hX hr hlk hK hE hH ls hl
  have C0 : wCx p m c s _ meth cX5_showWord 2 RX5 none D cs ad b := ⟨hX, hr, hlk, hK, hE⟩
  have hX : CallFix p m c cX5_showWord 2 s _ lw_all RX5 := hX
  have hx := hX.1
  have hb := hX.2.1
  have hown := hX.2.2.2.1
  have hts := hX.2.2.2.2
  have hl : lv_has ls 2 [(0, .ref (b + 0))] := hl
  unfold v_X5_showWord at hq
  refine lv_aload_n hx hb dX5_showWord_0 rfl (lv_at hl 0 rfl) ?_
  refine w_getr hX hK hH ck5 sh0 6 30 30 fr5_6 rfl q1_184 dX5_showWord_1 ?_
  obtain ⟨hp, hq⟩ := hq
  refine w_cV hH (w_rV (As := []) (rest := []) hX hK hE hH (c_X0_bringHome (sf5_6 sh0)  _ hp) ck0 (sf5_6 sh0) q2_4 q2_5 q2_6 q1_3 q2_7 hd_X0_bringHome ⟨Nat.le_of_ble_eq_true rfl, Nat.le_of_ble_eq_true rfl⟩ ⟨rfl, rfl⟩ rfl hl.1 rfl (Nat.le_of_ble_eq_true rfl) dX5_showWord_4 ⟨Nat.zero_le _, Nat.zero_le _⟩) (fun  I1 H locs hpo hH => ?_)
  have hq := hq  I1 hpo
  refine lv_iconst (v := 0) hx hb dX5_showWord_7 (by decide) ?_
  refine lv_istore_n (lv' := [(1, .int (0 : Int32)), (0, .ref (b + 0))]) hx hb dX5_showWord_8 rfl hl (by decide) rfl (fun ls hl => ?_)
  obtain ⟨f, hq⟩ := hq
  exact s_X5_showWord_9  C0  f (0 : Int32) _ _ _ _ hq hH (lv_sub hl [1, 0] rfl)
abbrev rm_X5_ofShortWord : Room := { frames := 3, cells := 0, slots := 0, locals := 75 }
theorem hd_X5_ofShortWord : yX5_ofShortWord.cls = RX5 ∧ yX5_ofShortWord.cls ≠ "java/lang/invoke/MethodHandle" ∧ yX5_ofShortWord.cls ≠ "java/lang/invoke/VarHandle" ∧ (parseMethodDescriptor yX5_ofShortWord.desc).map (fun d => d.parameters.length) = some 1 := by decide +kernel
set_option maxRecDepth 100000 in
set_option maxHeartbeats 4000000 in
theorem c_X5_ofShortWord {l : Launch} {D : va_G} {cs : wC4} {ad : Nat → Nat} {b : Nat} {G : wG} (x1 : Int32) (I : wI) (hp : pre_X5_ofShortWord x1 I) : Met l yX5_ofShortWord (ws_ yX5_ofShortWord cX5_ofShortWord 2 (some .int)) rm_X5_ofShortWord (va_Pc [.ref (b + 0), .int x1] (wPr D cs ad b G I)) (va_Qi (fun r I' => post_X5_ofShortWord x1 I r I') (wPo D cs b G) (fun q => b ≤ q)) 0 0 (fun q => b ≤ q) := by
  have hq := vc_X5_ofShortWord x1 I hp
  refine w_met (by decide) (Nat.le_of_ble_eq_true rfl) ?_
  intro p e s m below meth c hX hr hlk hK hE hH ls hl
  have C0 : wCx p m c s _ meth cX5_ofShortWord 2 RX5 (some .int) D cs ad b := ⟨hX, hr, hlk, hK, hE⟩
  have hX : CallFix p m c cX5_ofShortWord 2 s _ lw_all RX5 := hX
  have hx := hX.1
  have hb := hX.2.1
  have hown := hX.2.2.2.1
  have hts := hX.2.2.2.2
  have hl : lv_has ls 2 [(0, .ref (b + 0)), (1, .int x1)] := hl
  unfold v_X5_ofShortWord at hq
  refine lv_iload_n hx hb dX5_ofShortWord_0 rfl (lv_at hl 1 rfl) ?_
  refine lv_iconst (v := 4) hx hb dX5_ofShortWord_1 (by decide) ?_
  refine lv_icmp_ne (tgt := 13) hx hb dX5_ofShortWord_2 (by decide) (fun hc => ?_) (fun hc => ?_)
  · have hq := hq.1 hc
    refine lv_aload_n hx hb dX5_ofShortWord_13 rfl (lv_at hl 0 rfl) ?_
    obtain ⟨hp, hq⟩ := hq
    refine w_cV hH (w_rV (As := []) (rest := []) hX hK hE hH (c_X5_showWord   _ hp) ck5 sh0 q4_51 q4_53 qs28 q1_1 q4_54 hd_X5_showWord ⟨Nat.le_of_ble_eq_true rfl, Nat.le_of_ble_eq_true rfl⟩ ⟨rfl, rfl⟩ rfl hl.1 rfl (Nat.le_of_ble_eq_true rfl) dX5_ofShortWord_14 ⟨Nat.zero_le _, Nat.zero_le _⟩) (fun  I1 H locs hpo hH => ?_)
    have hq := hq  I1 hpo
    refine lv_iload_n hx hb dX5_ofShortWord_17 rfl (lv_at hl 1 rfl) ?_
    by_cases hc0 : x1 = (1 : Int32)
    · have hq := hq.1 hc0
      refine lv_lookup (tgt := 44) hx hb dX5_ofShortWord_18 (by decide) (by first | (rw [hc0]; done) | (rw [hc0]; rfl)) (by decide) ?_
      refine lv_aload_n hx hb dX5_ofShortWord_44 rfl (lv_at hl 0 rfl) ?_
      refine w_getr hX hK hH ck5 sh0 6 30 30 fr5_6 rfl q1_184 dX5_ofShortWord_45 ?_
      obtain ⟨hp, hq⟩ := hq
      refine w_cIp hH (w_rV (As := []) (rest := []) hX hK hE hH (c_X0_reach (sf5_6 sh0)  _ hp) ck0 (sf5_6 sh0) q1_234 q1_235 q1_236 q1_3 q1_237 hd_X0_reach ⟨Nat.le_of_ble_eq_true rfl, Nat.le_of_ble_eq_true rfl⟩ ⟨rfl, rfl⟩ rfl hl.1 rfl (Nat.le_of_ble_eq_true rfl) dX5_ofShortWord_48 ⟨Nat.zero_le _, Nat.zero_le _⟩) (fun r2  H locs hpo hH => ?_)
      have hq := hq r2  hpo
      exact w_eI hX hr hlk hH hq dX5_ofShortWord_51
    by_cases hc1 : x1 = (2 : Int32)
    · have hq := hq.2.1 hc1
      refine lv_lookup (tgt := 52) hx hb dX5_ofShortWord_18 (by decide) (by first | (rw [hc1]; done) | (rw [hc1]; rfl)) (by decide) ?_
      refine lv_aload_n hx hb dX5_ofShortWord_52 rfl (lv_at hl 0 rfl) ?_
      obtain ⟨hp, hq⟩ := hq
      refine w_cI hH (w_rV (As := []) (rest := []) hX hK hE hH (c_X5_periodByDoing   _ hp) ck5 sh0 q3_50 q3_52 qs16 q1_1 q3_53 hd_X5_periodByDoing ⟨Nat.le_of_ble_eq_true rfl, Nat.le_of_ble_eq_true rfl⟩ ⟨rfl, rfl⟩ rfl hl.1 rfl (Nat.le_of_ble_eq_true rfl) dX5_ofShortWord_53 ⟨Nat.zero_le _, Nat.zero_le _⟩) (fun r3 I4 H locs hpo hH => ?_)
      have hq := hq r3 I4 hpo
      exact w_eI hX hr hlk hH hq dX5_ofShortWord_56
    have hq := hq.2.2 ⟨hc0, hc1⟩
    have he0 := w_toInt_ne hc0
    have he1 := w_toInt_ne hc1
    refine lv_lookup (tgt := 57) (off := 39) hx hb dX5_ofShortWord_18 (by decide) (by rw [lv_osw (k := 1) hc0 (by decide)]; rw [lv_osw (k := 2) hc1 (by decide)]; rfl) (by decide) ?_
    refine lv_aload_n hx hb dX5_ofShortWord_57 rfl (lv_at hl 0 rfl) ?_
    refine w_getr hX hK hH ck5 sh0 6 30 30 fr5_6 rfl q1_184 dX5_ofShortWord_58 ?_
    obtain ⟨hp, hq⟩ := hq
    refine w_cIp hH (w_rV (As := []) (rest := []) hX hK hE hH (c_X0_periodByRounds (sf5_6 sh0)  _ hp) ck0 (sf5_6 sh0) q3_59 q3_60 q3_61 q1_3 q3_62 hd_X0_periodByRounds ⟨Nat.le_of_ble_eq_true rfl, Nat.le_of_ble_eq_true rfl⟩ ⟨rfl, rfl⟩ rfl hl.1 rfl (Nat.le_of_ble_eq_true rfl) dX5_ofShortWord_61 ⟨Nat.zero_le _, Nat.zero_le _⟩) (fun r5  H locs hpo hH => ?_)
    have hq := hq r5  hpo
    exact w_eI hX hr hlk hH hq dX5_ofShortWord_64
  · have hq := hq.2 hc
    refine lv_aload_n hx hb dX5_ofShortWord_5 rfl (lv_at hl 0 rfl) ?_
    refine w_getr hX hK hH ck5 sh0 5 24 24 fr5_5 rfl q1_183 dX5_ofShortWord_6 ?_
    obtain ⟨hp, hq⟩ := hq
    refine w_cIp hH (w_rV (As := []) (rest := []) hX hK hE hH (c_X4_turnsLessBacks (sf5_5 sh0)  _ hp) ck4 (sf5_5 sh0) q4_46 q4_47 q4_48 q1_5 q4_49 hd_X4_turnsLessBacks ⟨Nat.le_of_ble_eq_true rfl, Nat.le_of_ble_eq_true rfl⟩ ⟨rfl, rfl⟩ rfl hl.1 rfl (Nat.le_of_ble_eq_true rfl) dX5_ofShortWord_9 ⟨Nat.zero_le _, Nat.zero_le _⟩) (fun r6  H locs hpo hH => ?_)
    have hq := hq r6  hpo
    exact w_eI hX hr hlk hH hq dX5_ofShortWord_12
abbrev rm_X5_ofWord : Room := { frames := 8, cells := 0, slots := 0, locals := 130 }
theorem hd_X5_ofWord : yX5_ofWord.cls = RX5 ∧ yX5_ofWord.cls ≠ "java/lang/invoke/MethodHandle" ∧ yX5_ofWord.cls ≠ "java/lang/invoke/VarHandle" ∧ (parseMethodDescriptor yX5_ofWord.desc).map (fun d => d.parameters.length) = some 1 := by decide +kernel
set_option maxRecDepth 100000 in
set_option maxHeartbeats 4000000 in
theorem s_X5_ofWord_9 {x1 : Int32} {Q : Int32 → wI → Prop} (C0 : wCx p m c s args meth cX5_ofWord 2 RX5 (some .int) D cs ad b) : ∀  (I : wI) (H : Heap) (locs : List Loc) (ls : Array Slot), v_X5_ofWord_9 x1 Q  I → wH D cs b G I s H locs → lv_has ls 2 [] → W p l e rm_X5_ofWord s m args below meth c H locs 0 0 (MQ below (va_Qi (Q) (wPo D cs b G) (fun q => b ≤ q)) args s 0 0 (fun q => b ≤ q)) (F0 m 9 ls []) := by
  obtain ⟨hX, hr, hlk, hK, hE⟩ := id C0
  have hx := hX.1
  have hb := hX.2.1
  have hown := hX.2.2.2.1
  have hts := hX.2.2.2.2
  intro  I H locs ls hq hH hl
  unfold v_X5_ofWord_9 at hq
  exact hq.elim
set_option maxRecDepth 100000 in
set_option maxHeartbeats 4000000 in
theorem c_X5_ofWord {l : Launch} {D : va_G} {cs : wC4} {ad : Nat → Nat} {b : Nat} {G : wG} (x1 : Int32) (I : wI) (hp : pre_X5_ofWord x1 I) : Met l yX5_ofWord (ws_ yX5_ofWord cX5_ofWord 2 (some .int)) rm_X5_ofWord (va_Pc [.ref (b + 0), .int x1] (wPr D cs ad b G I)) (va_Qi (fun r I' => post_X5_ofWord x1 I r I') (wPo D cs b G) (fun q => b ≤ q)) 0 0 (fun q => b ≤ q) := by
  have hq := vc_X5_ofWord x1 I hp
  refine w_met (by decide) (Nat.le_of_ble_eq_true rfl) ?_
  intro p e s m below meth c hX hr hlk hK hE hH ls hl
  have C0 : wCx p m c s _ meth cX5_ofWord 2 RX5 (some .int) D cs ad b := ⟨hX, hr, hlk, hK, hE⟩
  have hX : CallFix p m c cX5_ofWord 2 s _ lw_all RX5 := hX
  have hx := hX.1
  have hb := hX.2.1
  have hown := hX.2.2.2.1
  have hts := hX.2.2.2.2
  have hl : lv_has ls 2 [(0, .ref (b + 0)), (1, .int x1)] := hl
  unfold v_X5_ofWord at hq
  refine lv_iload_n hx hb dX5_ofWord_0 rfl (lv_at hl 1 rfl) ?_
  refine lv_if_lt (tgt := 9) hx hb dX5_ofWord_1 (by decide) (fun hc => ?_) (fun hc => ?_)
  · have hq := hq.1 hc
    exact s_X5_ofWord_9  C0   _ _ _ _ hq hH (lv_sub hl [] rfl)
  · have hq := hq.2 hc
    refine lv_iload_n hx hb dX5_ofWord_4 rfl (lv_at hl 1 rfl) ?_
    refine lv_iconst (v := 4) hx hb dX5_ofWord_5 (by decide) ?_
    refine lv_icmp_le (tgt := 19) hx hb dX5_ofWord_6 (by decide) (fun hc => ?_) (fun hc => ?_)
    · have hq := hq.1 hc
      refine lv_aload_n hx hb dX5_ofWord_19 rfl (lv_at hl 0 rfl) ?_
      refine w_getr hX hK hH ck5 sh0 5 24 24 fr5_5 rfl q1_183 dX5_ofWord_20 ?_
      obtain ⟨hp, hq⟩ := hq
      refine w_cI hH (w_rV (As := []) (rest := []) hX hK hE hH (c_X4_read (sf5_5 sh0)  _ hp) ck4 (sf5_5 sh0) q2_25 q2_26 q2_27 q1_5 q2_28 hd_X4_read ⟨Nat.le_of_ble_eq_true rfl, Nat.le_of_ble_eq_true rfl⟩ ⟨rfl, rfl⟩ rfl hl.1 rfl (Nat.le_of_ble_eq_true rfl) dX5_ofWord_23 ⟨Nat.zero_le _, Nat.zero_le _⟩) (fun r1 I2 H locs hpo hH => ?_)
      have hq := hq r1 I2 hpo
      refine lv_pop hx hb dX5_ofWord_26 rfl ?_
      refine lv_aload_n hx hb dX5_ofWord_27 rfl (lv_at hl 0 rfl) ?_
      refine w_getr hX hK hH ck5 sh0 5 24 24 fr5_5 rfl q1_183 dX5_ofWord_28 ?_
      refine w_getiN hX hK hE hH ck4 (sf5_5 sh0) 4 fi4_4 qn1_113 dX5_ofWord_31 ?_
      refine lv_if_ne (tgt := 47) hx hb dX5_ofWord_34 (by decide) (fun hc => ?_) (fun hc => ?_)
      · have hq := hq.1 hc
        refine lv_iload_n hx hb dX5_ofWord_47 rfl (lv_at hl 1 rfl) ?_
        refine lv_if_ne (tgt := 65) hx hb dX5_ofWord_48 (by decide) (fun hc => ?_) (fun hc => ?_)
        · have hq := hq.1 hc
          refine lv_aload_n hx hb dX5_ofWord_65 rfl (lv_at hl 0 rfl) ?_
          refine w_getr hX hK hH ck5 sh0 5 24 24 fr5_5 rfl q1_183 dX5_ofWord_66 ?_
          refine w_getiN hX hK hE hH ck4 (sf5_5 sh0) 3 fi4_3 qn1_111 dX5_ofWord_69 ?_
          refine lv_sipush (v := 500) hx hb dX5_ofWord_72 (by decide) ?_
          refine lv_icmp_le (tgt := 80) hx hb dX5_ofWord_75 (by decide) (fun hc => ?_) (fun hc => ?_)
          · have hq := hq.1 hc
            refine lv_aload_n hx hb dX5_ofWord_80 rfl (lv_at hl 0 rfl) ?_
            refine lv_iload_n hx hb dX5_ofWord_81 rfl (lv_at hl 1 rfl) ?_
            obtain ⟨hp, hq⟩ := hq
            refine w_cI hH (w_rV (As := [.int x1]) (rest := []) hX hK hE hH (c_X5_ofShortWord  _ _ hp) ck5 sh0 q4_42 q4_44 qs27 q1_1 q4_45 hd_X5_ofShortWord ⟨Nat.le_of_ble_eq_true rfl, Nat.le_of_ble_eq_true rfl⟩ ⟨rfl, rfl⟩ rfl hl.1 rfl (Nat.le_of_ble_eq_true rfl) dX5_ofWord_82 ⟨Nat.zero_le _, Nat.zero_le _⟩) (fun r3 I4 H locs hpo hH => ?_)
            have hq := hq r3 I4 hpo
            exact w_eI hX hr hlk hH hq dX5_ofWord_85
          · have hq := hq.2 hc
            refine lv_iconst (v := -1) hx hb dX5_ofWord_78 (by decide) ?_
            exact w_eI hX hr hlk hH hq dX5_ofWord_79
        · have hq := hq.2 hc
          refine lv_aload_n hx hb dX5_ofWord_51 rfl (lv_at hl 0 rfl) ?_
          refine w_getr hX hK hH ck5 sh0 5 24 24 fr5_5 rfl q1_183 dX5_ofWord_52 ?_
          refine w_getiN hX hK hE hH ck4 (sf5_5 sh0) 3 fi4_3 qn1_111 dX5_ofWord_55 ?_
          refine lv_sipush (v := 9999) hx hb dX5_ofWord_58 (by decide) ?_
          obtain ⟨hp, hq⟩ := hq
          refine w_cIp hH (w_rS (As := [.int (I2 24 3), .int (9999 : Int32)]) (rest := []) hX hK hE hH (c_J_min  _ _ _ hp) q4_39 q4_40 q1_14 q4_41 hd_J_min.2 ⟨Nat.le_of_ble_eq_true rfl, Nat.le_of_ble_eq_true rfl⟩ ⟨rfl, rfl⟩ rfl hl.1 rfl (Nat.le_of_ble_eq_true rfl) dX5_ofWord_61 ⟨Nat.zero_le _, Nat.zero_le _⟩) (fun r5  H locs hpo hH => ?_)
          have hq := hq r5  hpo
          exact w_eI hX hr hlk hH hq dX5_ofWord_64
      · have hq := hq.2 hc
        exact hq.elim
    · have hq := hq.2 hc
      exact s_X5_ofWord_9  C0   _ _ _ _ hq hH (lv_sub hl [] rfl)
abbrev rm_X5_ofWordx : Room := { frames := 8, cells := 1, slots := 6, locals := 130 }

set_option maxRecDepth 100000 in
set_option maxHeartbeats 4000000 in
theorem s_X5_ofWordx_9 {x1 : Int32} {X : String → wI → Prop} (hst : l.stackTraces = false) (hEx : ∀ x ∈ c.exceptionTable.toList, False) (C0 : wCx p m c s args meth cX5_ofWord 2 RX5 (some .int) D cs ad b) : ∀  (I : wI) (H : Heap) (locs : List Loc) (ls : Array Slot), v_X5_ofWordx_9 x1 X  I → wH D cs b G I s H locs → lv_has ls 2 [] → W p l e rm_X5_ofWordx s m args below meth c H locs 0 0 (vx_MQ below (va_Qi (fun (_ : Int32) (_ : wI) => False) (wPo D cs b G) (fun q => b ≤ q)) (wXC D cs b G X) args s 1 6 (fun q => b ≤ q)) (F0 m 9 ls []) := by
  obtain ⟨hX, hr, hlk, hK, hE⟩ := id C0
  have hx := hX.1
  have hb := hX.2.1
  have hown := hX.2.2.2.1
  have hts := hX.2.2.2.2
  intro  I H locs ls hq hH hl
  unfold v_X5_ofWordx_9 at hq
  exact w_throw th_X5_66_190_70 hX hst hlk hEx hE hH hl.1 dX5_ofWord_9 dX5_ofWord_12 dX5_ofWord_13 dX5_ofWord_15 dX5_ofWord_18 ⟨Nat.le_of_ble_eq_true rfl, Nat.le_of_ble_eq_true rfl, Nat.le_of_ble_eq_true rfl, Nat.le_of_ble_eq_true rfl⟩ hq
set_option maxRecDepth 100000 in
set_option maxHeartbeats 4000000 in
theorem c_X5_ofWordx {l : Launch} {D : va_G} {cs : wC4} {ad : Nat → Nat} {b : Nat} {G : wG} (hst : l.stackTraces = false) (x1 : Int32) (I : wI) (hp : pre_X5_ofWordx x1 I) : vx_Met l yX5_ofWord (ws_ yX5_ofWord cX5_ofWord 2 (some .int)) rm_X5_ofWordx (va_Pc [.ref (b + 0), .int x1] (wPr D cs ad b G I)) (va_Qi (fun (_ : Int32) (_ : wI) => False) (wPo D cs b G) (fun q => b ≤ q)) (wXC D cs b G (exc_X5_ofWord x1 I)) 1 6 (fun q => b ≤ q) := by
  have hq := vc_X5_ofWordx x1 I hp
  refine w_metx (by decide) (Nat.le_of_ble_eq_true rfl) ?_
  intro p e s m below meth c hX hr hlk hEx hK hE hH ls hl
  have C0 : wCx p m c s _ meth cX5_ofWord 2 RX5 (some .int) D cs ad b := ⟨hX, hr, hlk, hK, hE⟩
  have hX : CallFix p m c cX5_ofWord 2 s _ lw_all RX5 := hX
  have hx := hX.1
  have hb := hX.2.1
  have hown := hX.2.2.2.1
  have hts := hX.2.2.2.2
  have hl : lv_has ls 2 [(0, .ref (b + 0)), (1, .int x1)] := hl
  unfold v_X5_ofWordx at hq
  refine lv_iload_n hx hb dX5_ofWord_0 rfl (lv_at hl 1 rfl) ?_
  refine lv_if_lt (tgt := 9) hx hb dX5_ofWord_1 (by decide) (fun hc => ?_) (fun hc => ?_)
  · have hq := hq.1 hc
    exact s_X5_ofWordx_9 hst hEx C0   _ _ _ _ hq hH (lv_sub hl [] rfl)
  · have hq := hq.2 hc
    refine lv_iload_n hx hb dX5_ofWord_4 rfl (lv_at hl 1 rfl) ?_
    refine lv_iconst (v := 4) hx hb dX5_ofWord_5 (by decide) ?_
    refine lv_icmp_le (tgt := 19) hx hb dX5_ofWord_6 (by decide) (fun hc => ?_) (fun hc => ?_)
    · have hq := hq.1 hc
      refine lv_aload_n hx hb dX5_ofWord_19 rfl (lv_at hl 0 rfl) ?_
      refine w_getr hX hK hH ck5 sh0 5 24 24 fr5_5 rfl q1_183 dX5_ofWord_20 ?_
      obtain ⟨hp, hq⟩ := hq
      refine w_cI hH (w_rV (As := []) (rest := []) hX hK hE hH (c_X4_read (sf5_5 sh0)  _ hp) ck4 (sf5_5 sh0) q2_25 q2_26 q2_27 q1_5 q2_28 hd_X4_read ⟨Nat.le_of_ble_eq_true rfl, Nat.le_of_ble_eq_true rfl⟩ ⟨rfl, rfl⟩ rfl hl.1 rfl (Nat.le_of_ble_eq_true rfl) dX5_ofWord_23 ⟨Nat.zero_le _, Nat.zero_le _⟩) (fun r1 I2 H locs hpo hH => ?_)
      have hq := hq r1 I2 hpo
      refine lv_pop hx hb dX5_ofWord_26 rfl ?_
      refine lv_aload_n hx hb dX5_ofWord_27 rfl (lv_at hl 0 rfl) ?_
      refine w_getr hX hK hH ck5 sh0 5 24 24 fr5_5 rfl q1_183 dX5_ofWord_28 ?_
      refine w_getiN hX hK hE hH ck4 (sf5_5 sh0) 4 fi4_4 qn1_113 dX5_ofWord_31 ?_
      refine lv_if_ne (tgt := 47) hx hb dX5_ofWord_34 (by decide) (fun hc => ?_) (fun hc => ?_)
      · have hq := hq.1 hc
        refine lv_iload_n hx hb dX5_ofWord_47 rfl (lv_at hl 1 rfl) ?_
        refine lv_if_ne (tgt := 65) hx hb dX5_ofWord_48 (by decide) (fun hc => ?_) (fun hc => ?_)
        · have hq := hq.1 hc
          refine lv_aload_n hx hb dX5_ofWord_65 rfl (lv_at hl 0 rfl) ?_
          refine w_getr hX hK hH ck5 sh0 5 24 24 fr5_5 rfl q1_183 dX5_ofWord_66 ?_
          refine w_getiN hX hK hE hH ck4 (sf5_5 sh0) 3 fi4_3 qn1_111 dX5_ofWord_69 ?_
          refine lv_sipush (v := 500) hx hb dX5_ofWord_72 (by decide) ?_
          refine lv_icmp_le (tgt := 80) hx hb dX5_ofWord_75 (by decide) (fun hc => ?_) (fun hc => ?_)
          · have hq := hq.1 hc
            refine lv_aload_n hx hb dX5_ofWord_80 rfl (lv_at hl 0 rfl) ?_
            refine lv_iload_n hx hb dX5_ofWord_81 rfl (lv_at hl 1 rfl) ?_
            obtain ⟨hp, hq⟩ := hq
            refine w_cI hH (w_rV (As := [.int x1]) (rest := []) hX hK hE hH (c_X5_ofShortWord  _ _ hp) ck5 sh0 q4_42 q4_44 qs27 q1_1 q4_45 hd_X5_ofShortWord ⟨Nat.le_of_ble_eq_true rfl, Nat.le_of_ble_eq_true rfl⟩ ⟨rfl, rfl⟩ rfl hl.1 rfl (Nat.le_of_ble_eq_true rfl) dX5_ofWord_82 ⟨Nat.zero_le _, Nat.zero_le _⟩) (fun r3 I4 H locs hpo hH => ?_)
            have hq := hq r3 I4 hpo
            exact hq.elim
          · have hq := hq.2 hc
            refine lv_iconst (v := -1) hx hb dX5_ofWord_78 (by decide) ?_
            exact hq.elim
        · have hq := hq.2 hc
          refine lv_aload_n hx hb dX5_ofWord_51 rfl (lv_at hl 0 rfl) ?_
          refine w_getr hX hK hH ck5 sh0 5 24 24 fr5_5 rfl q1_183 dX5_ofWord_52 ?_
          refine w_getiN hX hK hE hH ck4 (sf5_5 sh0) 3 fi4_3 qn1_111 dX5_ofWord_55 ?_
          refine lv_sipush (v := 9999) hx hb dX5_ofWord_58 (by decide) ?_
          obtain ⟨hp, hq⟩ := hq
          refine w_cIp hH (w_rS (As := [.int (I2 24 3), .int (9999 : Int32)]) (rest := []) hX hK hE hH (c_J_min  _ _ _ hp) q4_39 q4_40 q1_14 q4_41 hd_J_min.2 ⟨Nat.le_of_ble_eq_true rfl, Nat.le_of_ble_eq_true rfl⟩ ⟨rfl, rfl⟩ rfl hl.1 rfl (Nat.le_of_ble_eq_true rfl) dX5_ofWord_61 ⟨Nat.zero_le _, Nat.zero_le _⟩) (fun r5  H locs hpo hH => ?_)
          have hq := hq r5  hpo
          exact hq.elim
      · have hq := hq.2 hc
        exact w_throw th_X5_66_68_70 hX hst hlk hEx hE hH hl.1 dX5_ofWord_37 dX5_ofWord_40 dX5_ofWord_41 dX5_ofWord_43 dX5_ofWord_46 ⟨Nat.le_of_ble_eq_true rfl, Nat.le_of_ble_eq_true rfl, Nat.le_of_ble_eq_true rfl, Nat.le_of_ble_eq_true rfl⟩ hq
    · have hq := hq.2 hc
      exact s_X5_ofWordx_9 hst hEx C0   _ _ _ _ hq hH (lv_sub hl [] rfl)
abbrev rm_X5_count : Room := { frames := 8, cells := 0, slots := 0, locals := 120 }
theorem hd_X5_count : yX5_count.cls = RX5 ∧ yX5_count.cls ≠ "java/lang/invoke/MethodHandle" ∧ yX5_count.cls ≠ "java/lang/invoke/VarHandle" ∧ (parseMethodDescriptor yX5_count.desc).map (fun d => d.parameters.length) = some 1 := by decide +kernel
set_option maxRecDepth 100000 in
set_option maxHeartbeats 4000000 in
theorem s_X5_count_117 {x1 : Int32} {I : wI} {Q : Int32 → Prop} (C0 : wCx p m c s args meth cX5_count 2 RX5 (some .int) D cs ad b) : ∀ (t0 : Int32) (H : Heap) (locs : List Loc) (ls : Array Slot), v_X5_count_117 x1 I Q t0 → wH D cs b G I s H locs → lv_has ls 2 [] → W p l e rm_X5_count s m args below meth c H locs 0 0 (MQ below (va_Qi (fun r I' => I' = I ∧ Q r) (wPo D cs b G) (fun q => b ≤ q)) args s 0 0 (fun q => b ≤ q)) (F0 m 117 ls [.int t0]) := by
  obtain ⟨hX, hr, hlk, hK, hE⟩ := id C0
  have hx := hX.1
  have hb := hX.2.1
  have hown := hX.2.2.2.1
  have hts := hX.2.2.2.2
  intro t0 H locs ls hq hH hl
  unfold v_X5_count_117 at hq
  exact w_eI hX hr hlk hH ⟨rfl, hq⟩ dX5_count_117
set_option maxRecDepth 100000 in
set_option maxHeartbeats 4000000 in
theorem c_X5_count {l : Launch} {D : va_G} {cs : wC4} {ad : Nat → Nat} {b : Nat} {G : wG} (x1 : Int32) (I : wI) (hp : pre_X5_count x1 I) : Met l yX5_count (ws_ yX5_count cX5_count 2 (some .int)) rm_X5_count (va_Pc [.ref (b + 0), .int x1] (wPr D cs ad b G I)) (va_Qi (fun r I' => I' = I ∧ post_X5_count x1 I r) (wPo D cs b G) (fun q => b ≤ q)) 0 0 (fun q => b ≤ q) := by
  have hq := vc_X5_count x1 I hp
  refine w_met (by decide) (Nat.le_of_ble_eq_true rfl) ?_
  intro p e s m below meth c hX hr hlk hK hE hH ls hl
  have C0 : wCx p m c s _ meth cX5_count 2 RX5 (some .int) D cs ad b := ⟨hX, hr, hlk, hK, hE⟩
  have hX : CallFix p m c cX5_count 2 s _ lw_all RX5 := hX
  have hx := hX.1
  have hb := hX.2.1
  have hown := hX.2.2.2.1
  have hts := hX.2.2.2.2
  have hl : lv_has ls 2 [(0, .ref (b + 0)), (1, .int x1)] := hl
  unfold v_X5_count at hq
  refine lv_iload_n hx hb dX5_count_0 rfl (lv_at hl 1 rfl) ?_
  by_cases hc0 : x1 = (0 : Int32)
  · have hq := hq.1 hc0
    refine lv_tableIn (tgt := 56) hx hb dX5_count_1 (by rw [hc0]; decide) (by rw [hc0]; decide) (by rw [hc0]; rfl) (by decide) ?_
    refine lv_aload_n hx hb dX5_count_56 rfl (lv_at hl 0 rfl) ?_
    refine w_getr hX hK hH ck5 sh0 0 1 1 fr5_0 rfl q1_178 dX5_count_57 ?_
    refine w_getiN hX hK hE hH ck3 (sf5_0 sh0) 6 fi3_6 qn1_75 dX5_count_60 ?_
    exact w_eI hX hr hlk hH ⟨rfl, hq⟩ dX5_count_63
  by_cases hc1 : x1 = (1 : Int32)
  · have hq := hq.2.1 hc1
    refine lv_tableIn (tgt := 64) hx hb dX5_count_1 (by rw [hc1]; decide) (by rw [hc1]; decide) (by rw [hc1]; rfl) (by decide) ?_
    refine lv_aload_n hx hb dX5_count_64 rfl (lv_at hl 0 rfl) ?_
    refine w_getr hX hK hH ck5 sh0 0 1 1 fr5_0 rfl q1_178 dX5_count_65 ?_
    refine w_getrN hX hK hE hH ck3 (sf5_0 sh0) 0 1 2 fr3_0 rfl qn1_61 dX5_count_68 ?_
    obtain ⟨hp, hq⟩ := hq
    refine w_cIp hH (w_rV (As := []) (rest := []) hX hK hE hH (c_X0_notchSum (sf3_0 (sf5_0 sh0))  _ hp) ck0 (sf3_0 (sf5_0 sh0)) q2_13 q2_14 q2_15 q1_3 q2_16 hd_X0_notchSum ⟨Nat.le_of_ble_eq_true rfl, Nat.le_of_ble_eq_true rfl⟩ ⟨rfl, rfl⟩ rfl hl.1 rfl (Nat.le_of_ble_eq_true rfl) dX5_count_71 ⟨Nat.zero_le _, Nat.zero_le _⟩) (fun r1  H locs hpo hH => ?_)
    have hq := hq r1  hpo
    refine lv_iconst (v := 5) hx hb dX5_count_74 (by decide) ?_
    refine lv_irem hx hb dX5_count_75 (by decide) ?_
    exact w_eI hX hr hlk hH ⟨rfl, hq⟩ dX5_count_76
  by_cases hc2 : x1 = (2 : Int32)
  · have hq := hq.2.2.1 hc2
    refine lv_tableIn (tgt := 77) hx hb dX5_count_1 (by rw [hc2]; decide) (by rw [hc2]; decide) (by rw [hc2]; rfl) (by decide) ?_
    refine lv_aload_n hx hb dX5_count_77 rfl (lv_at hl 0 rfl) ?_
    refine w_getr hX hK hH ck5 sh0 0 1 1 fr5_0 rfl q1_178 dX5_count_78 ?_
    refine w_getiN hX hK hE hH ck3 (sf5_0 sh0) 7 fi3_7 qn1_77 dX5_count_81 ?_
    exact w_eI hX hr hlk hH ⟨rfl, hq⟩ dX5_count_84
  by_cases hc3 : x1 = (3 : Int32)
  · have hq := hq.2.2.2.1 hc3
    refine lv_tableIn (tgt := 85) hx hb dX5_count_1 (by rw [hc3]; decide) (by rw [hc3]; decide) (by rw [hc3]; rfl) (by decide) ?_
    refine lv_bipush (v := 6) hx hb dX5_count_85 (by decide) ?_
    refine lv_aload_n hx hb dX5_count_87 rfl (lv_at hl 0 rfl) ?_
    refine w_getr hX hK hH ck5 sh0 0 1 1 fr5_0 rfl q1_178 dX5_count_88 ?_
    refine w_getrN hX hK hE hH ck3 (sf5_0 sh0) 0 1 2 fr3_0 rfl qn1_61 dX5_count_91 ?_
    obtain ⟨hp, hq⟩ := hq
    refine w_cIp hH (w_rV (As := []) (rest := [.int (6 : Int32)]) hX hK hE hH (c_X0_reach (sf3_0 (sf5_0 sh0))  _ hp) ck0 (sf3_0 (sf5_0 sh0)) q1_234 q1_235 q1_236 q1_3 q1_237 hd_X0_reach ⟨Nat.le_of_ble_eq_true rfl, Nat.le_of_ble_eq_true rfl⟩ ⟨rfl, rfl⟩ rfl hl.1 rfl (Nat.le_of_ble_eq_true rfl) dX5_count_94 ⟨Nat.zero_le _, Nat.zero_le _⟩) (fun r2  H locs hpo hH => ?_)
    have hq := hq r2  hpo
    obtain ⟨hp, hq⟩ := hq
    refine w_cIp hH (w_rS (As := [.int r2]) (rest := [.int (6 : Int32)]) hX hK hE hH (c_J_bitCount  _ _ hp) q1_238 q1_239 q1_13 q2_0 hd_J_bitCount.2 ⟨Nat.le_of_ble_eq_true rfl, Nat.le_of_ble_eq_true rfl⟩ ⟨rfl, rfl⟩ rfl hl.1 rfl (Nat.le_of_ble_eq_true rfl) dX5_count_97 ⟨Nat.zero_le _, Nat.zero_le _⟩) (fun r3  H locs hpo hH => ?_)
    have hq := hq r3  hpo
    refine lv_isub hx hb dX5_count_100 ?_
    exact w_eI hX hr hlk hH ⟨rfl, hq⟩ dX5_count_101
  by_cases hc4 : x1 = (4 : Int32)
  · have hq := hq.2.2.2.2.1 hc4
    refine lv_tableIn (tgt := 102) hx hb dX5_count_1 (by rw [hc4]; decide) (by rw [hc4]; decide) (by rw [hc4]; rfl) (by decide) ?_
    refine lv_aload_n hx hb dX5_count_102 rfl (lv_at hl 0 rfl) ?_
    refine w_getr hX hK hH ck5 sh0 0 1 1 fr5_0 rfl q1_178 dX5_count_103 ?_
    obtain ⟨hp, hq⟩ := hq
    refine w_cIp hH (w_rV (As := []) (rest := []) hX hK hE hH (c_X3_opens (sf5_0 sh0)  _ hp) ck3 (sf5_0 sh0) q2_139 q2_140 q2_141 q1_2 q2_142 hd_X3_opens ⟨Nat.le_of_ble_eq_true rfl, Nat.le_of_ble_eq_true rfl⟩ ⟨rfl, rfl⟩ rfl hl.1 rfl (Nat.le_of_ble_eq_true rfl) dX5_count_106 ⟨Nat.zero_le _, Nat.zero_le _⟩) (fun r4  H locs hpo hH => ?_)
    have hq := hq r4  hpo
    refine lv_if_eq (tgt := 116) hx hb dX5_count_109 (by decide) (fun hc => ?_) (fun hc => ?_)
    · have hq := hq.1 hc
      refine lv_iconst (v := 0) hx hb dX5_count_116 (by decide) ?_
      exact s_X5_count_117  C0  (0 : Int32) _ _ _ hq hH (lv_sub hl [] rfl)
    · have hq := hq.2 hc
      refine lv_iconst (v := 1) hx hb dX5_count_112 (by decide) ?_
      refine lv_goto (tgt := 117) hx hb dX5_count_113 (by decide) ?_
      exact s_X5_count_117  C0  (1 : Int32) _ _ _ hq hH (lv_sub hl [] rfl)
  by_cases hc5 : x1 = (5 : Int32)
  · have hq := hq.2.2.2.2.2.1 hc5
    refine lv_tableIn (tgt := 118) hx hb dX5_count_1 (by rw [hc5]; decide) (by rw [hc5]; decide) (by rw [hc5]; rfl) (by decide) ?_
    refine lv_aload_n hx hb dX5_count_118 rfl (lv_at hl 0 rfl) ?_
    refine w_getr hX hK hH ck5 sh0 0 1 1 fr5_0 rfl q1_178 dX5_count_119 ?_
    refine lv_aload_n hx hb dX5_count_122 rfl (lv_at hl 0 rfl) ?_
    refine w_getr hX hK hH ck5 sh0 0 1 1 fr5_0 rfl q1_178 dX5_count_123 ?_
    refine w_getrN hX hK hE hH ck3 (sf5_0 sh0) 0 1 2 fr3_0 rfl qn1_61 dX5_count_126 ?_
    obtain ⟨hp, hq⟩ := hq
    refine w_cIp hH (w_rV (As := [.ref (b + 2)]) (rest := []) hX hK hE hH (c_X3_asInSecret (sf5_0 sh0) (sf3_0 (sf5_0 sh0))  _ hp) ck3 (sf5_0 sh0) q2_116 q2_117 q2_118 q1_2 q2_119 hd_X3_asInSecret ⟨Nat.le_of_ble_eq_true rfl, Nat.le_of_ble_eq_true rfl⟩ ⟨rfl, rfl⟩ rfl hl.1 rfl (Nat.le_of_ble_eq_true rfl) dX5_count_129 ⟨Nat.zero_le _, Nat.zero_le _⟩) (fun r5  H locs hpo hH => ?_)
    have hq := hq r5  hpo
    exact w_eI hX hr hlk hH ⟨rfl, hq⟩ dX5_count_132
  by_cases hc6 : x1 = (6 : Int32)
  · have hq := hq.2.2.2.2.2.2.1 hc6
    refine lv_tableIn (tgt := 133) hx hb dX5_count_1 (by rw [hc6]; decide) (by rw [hc6]; decide) (by rw [hc6]; rfl) (by decide) ?_
    refine lv_aload_n hx hb dX5_count_133 rfl (lv_at hl 0 rfl) ?_
    refine w_getr hX hK hH ck5 sh0 0 1 1 fr5_0 rfl q1_178 dX5_count_134 ?_
    refine w_getiN hX hK hE hH ck3 (sf5_0 sh0) 4 fi3_4 qn1_72 dX5_count_137 ?_
    obtain ⟨hp, hq⟩ := hq
    refine w_cIp hH (w_rS (As := [.int (I 1 4)]) (rest := []) hX hK hE hH (c_J_bitCount  _ _ hp) q1_238 q1_239 q1_13 q2_0 hd_J_bitCount.2 ⟨Nat.le_of_ble_eq_true rfl, Nat.le_of_ble_eq_true rfl⟩ ⟨rfl, rfl⟩ rfl hl.1 rfl (Nat.le_of_ble_eq_true rfl) dX5_count_140 ⟨Nat.zero_le _, Nat.zero_le _⟩) (fun r6  H locs hpo hH => ?_)
    have hq := hq r6  hpo
    exact w_eI hX hr hlk hH ⟨rfl, hq⟩ dX5_count_143
  by_cases hc7 : x1 = (7 : Int32)
  · have hq := hq.2.2.2.2.2.2.2.1 hc7
    refine lv_tableIn (tgt := 144) hx hb dX5_count_1 (by rw [hc7]; decide) (by rw [hc7]; decide) (by rw [hc7]; rfl) (by decide) ?_
    refine lv_aload_n hx hb dX5_count_144 rfl (lv_at hl 0 rfl) ?_
    refine w_getr hX hK hH ck5 sh0 0 1 1 fr5_0 rfl q1_178 dX5_count_145 ?_
    obtain ⟨hp, hq⟩ := hq
    refine w_cIp hH (w_rV (As := []) (rest := []) hX hK hE hH (c_X3_stuckKeys (sf5_0 sh0)  _ hp) ck3 (sf5_0 sh0) q2_144 q2_145 q2_146 q1_2 q2_147 hd_X3_stuckKeys ⟨Nat.le_of_ble_eq_true rfl, Nat.le_of_ble_eq_true rfl⟩ ⟨rfl, rfl⟩ rfl hl.1 rfl (Nat.le_of_ble_eq_true rfl) dX5_count_148 ⟨Nat.zero_le _, Nat.zero_le _⟩) (fun r7  H locs hpo hH => ?_)
    have hq := hq r7  hpo
    exact w_eI hX hr hlk hH ⟨rfl, hq⟩ dX5_count_151
  by_cases hc8 : x1 = (8 : Int32)
  · have hq := hq.2.2.2.2.2.2.2.2.1 hc8
    refine lv_tableIn (tgt := 152) hx hb dX5_count_1 (by rw [hc8]; decide) (by rw [hc8]; decide) (by rw [hc8]; rfl) (by decide) ?_
    refine lv_aload_n hx hb dX5_count_152 rfl (lv_at hl 0 rfl) ?_
    refine w_getr hX hK hH ck5 sh0 0 1 1 fr5_0 rfl q1_178 dX5_count_153 ?_
    refine w_getiN hX hK hE hH ck3 (sf5_0 sh0) 8 fi3_8 qn1_79 dX5_count_156 ?_
    exact w_eI hX hr hlk hH ⟨rfl, hq⟩ dX5_count_159
  by_cases hc9 : x1 = (9 : Int32)
  · have hq := hq.2.2.2.2.2.2.2.2.2.1 hc9
    refine lv_tableIn (tgt := 160) hx hb dX5_count_1 (by rw [hc9]; decide) (by rw [hc9]; decide) (by rw [hc9]; rfl) (by decide) ?_
    refine lv_aload_n hx hb dX5_count_160 rfl (lv_at hl 0 rfl) ?_
    refine w_geti hX hK hH ck5 sh0 4 fi5_4 q1_182 dX5_count_161 ?_
    exact w_eI hX hr hlk hH ⟨rfl, hq⟩ dX5_count_164
  have hq := hq.2.2.2.2.2.2.2.2.2.2 ⟨hc0, hc1, hc2, hc3, hc4, hc5, hc6, hc7, hc8, hc9⟩
  have he0 := w_toInt_ne hc0
  have he1 := w_toInt_ne hc1
  have he2 := w_toInt_ne hc2
  have he3 := w_toInt_ne hc3
  have he4 := w_toInt_ne hc4
  have he5 := w_toInt_ne hc5
  have he6 := w_toInt_ne hc6
  have he7 := w_toInt_ne hc7
  have he8 := w_toInt_ne hc8
  have he9 := w_toInt_ne hc9
  refine lv_tableOut (tgt := 165) hx hb dX5_count_1 (w_swOut0_9 hc0 hc1 hc2 hc3 hc4 hc5 hc6 hc7 hc8 hc9) (by decide) ?_
  exact hq.elim
end
