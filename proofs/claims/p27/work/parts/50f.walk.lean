section
variable {p : Program} {l : Launch} {e : Env} {s : State} {m : MethodId} {args : Array Value} {below : List Frame} {meth : Method} {c : Code} {D : va_G} {cs : wC4} {ad : Nat → Nat} {b : Nat} {G : wG}
abbrev rm_X2_search : Room := { frames := 4, cells := 0, slots := 0, locals := 99 }
theorem hd_X2_search : yX2_search.cls = RX2 ∧ yX2_search.cls ≠ "java/lang/invoke/MethodHandle" ∧ yX2_search.cls ≠ "java/lang/invoke/VarHandle" ∧ (parseMethodDescriptor yX2_search.desc).map (fun d => d.parameters.length) = some 1 := by decide +kernel
set_option maxRecDepth 100000 in
set_option maxHeartbeats 4000000 in
theorem s_X2_search_58 {k : Nat} {k1 : Nat} {Q : wI → Prop} {K38 : Int32 → wI → Prop} (hs : wSh k = (0, 2)) (hs1 : wSh k1 = (0, 3)) (C0 : wCx p m c s args meth cX2_search 3 RX2 none D cs ad b) (hK38 : ∀ (v2 : Int32) (I : wI) (H : Heap) (locs : List Loc) (ls : Array Slot), K38 v2 I → wH D cs b G I s H locs → lv_has ls 3 [(0, .ref (G.1 k)), (1, .ref (G.1 k1)), (2, .int v2)] → W p l e rm_X2_search s m args below meth c H locs 0 0 (MQ below (va_Qv (Q) (wPo D cs b G) (fun q => b ≤ q)) args s 0 0 (fun q => b ≤ q)) (F0 m 38 ls [])) : ∀ (v2 : Int32) (I : wI) (H : Heap) (locs : List Loc) (ls : Array Slot), v_X2_search_58 k k1 Q K38 v2 I → wH D cs b G I s H locs → lv_has ls 3 [(0, .ref (G.1 k)), (1, .ref (G.1 k1)), (2, .int v2)] → W p l e rm_X2_search s m args below meth c H locs 0 0 (MQ below (va_Qv (Q) (wPo D cs b G) (fun q => b ≤ q)) args s 0 0 (fun q => b ≤ q)) (F0 m 58 ls []) := by
  obtain ⟨hX, hr, hlk, hK, hE⟩ := id C0
  have hx := hX.1
  have hb := hX.2.1
  have hown := hX.2.2.2.1
  have hts := hX.2.2.2.2
  intro v2 I H locs ls hq hH hl
  unfold v_X2_search_58 at hq
  refine lv_iinc (v := (v2 + (1 : Int32))) (lv' := [(2, .int (v2 + (1 : Int32))), (0, .ref (G.1 k)), (1, .ref (G.1 k1))]) hx hb dX2_search_58 hl (k := 2) rfl rfl (by decide) rfl (fun ls hl => ?_)
  refine lv_goto (tgt := 38) hx hb dX2_search_61 (by decide) ?_
  exact hK38 (v2 + (1 : Int32)) _ _ _ _ hq hH (lv_sub hl [1, 2, 0] rfl)
set_option maxRecDepth 100000 in
set_option maxHeartbeats 4000000 in
theorem s_X2_search_38 {k : Nat} {k1 : Nat} {Q : wI → Prop} (hs : wSh k = (0, 2)) (hs1 : wSh k1 = (0, 3)) (C0 : wCx p m c s args meth cX2_search 3 RX2 none D cs ad b) : ∀ (f : Nat) (v2 : Int32) (I : wI) (H : Heap) (locs : List Loc) (ls : Array Slot), v_X2_search_38 k k1 Q f v2 I → wH D cs b G I s H locs → lv_has ls 3 [(0, .ref (G.1 k)), (1, .ref (G.1 k1)), (2, .int v2)] → W p l e rm_X2_search s m args below meth c H locs 0 0 (MQ below (va_Qv (Q) (wPo D cs b G) (fun q => b ≤ q)) args s 0 0 (fun q => b ≤ q)) (F0 m 38 ls []) := by
  obtain ⟨hX, hr, hlk, hK, hE⟩ := id C0
  have hx := hX.1
  have hb := hX.2.1
  have hown := hX.2.2.2.1
  have hts := hX.2.2.2.2
  intro f
  induction f with
  | zero =>
    intro v2 I H locs ls hq
    exact hq.elim
  | succ f hK38 =>
    intro v2 I H locs ls hq hH hl
    have hq : g_X2_search_38 k k1 Q (v_X2_search_38 k k1 Q f) v2 I := hq
    unfold g_X2_search_38 at hq
    refine lv_iload_n hx hb dX2_search_38 rfl (lv_at hl 2 rfl) ?_
    refine lv_bipush (v := 10) hx hb dX2_search_39 (by decide) ?_
    refine lv_icmp_ge (tgt := 64) hx hb dX2_search_41 (by decide) (fun hc => ?_) (fun hc => ?_)
    · have hq := hq.1 hc
      exact w_eV hX hr hlk hH hq dX2_search_64
    · have hq := hq.2 hc
      refine lv_aload_n hx hb dX2_search_44 rfl (lv_at hl 1 rfl) ?_
      refine lv_iload_n hx hb dX2_search_45 rfl (lv_at hl 2 rfl) ?_
      obtain ⟨hp, hq⟩ := hq
      refine w_cIp hH (w_rV (As := [.int v2]) (rest := []) hX hK hE hH (c_X3_allows hs1 _ _ hp) ck3 hs1 q3_48 q2_206 q2_207 q1_2 q2_208 hd_X3_allows ⟨Nat.le_of_ble_eq_true rfl, Nat.le_of_ble_eq_true rfl⟩ ⟨rfl, rfl⟩ rfl hl.1 rfl (Nat.le_of_ble_eq_true rfl) dX2_search_46 ⟨Nat.zero_le _, Nat.zero_le _⟩) (fun r1  H locs hpo hH => ?_)
      have hq := hq r1  hpo
      refine lv_if_eq (tgt := 58) hx hb dX2_search_49 (by decide) (fun hc => ?_) (fun hc => ?_)
      · have hq := hq.1 hc
        exact s_X2_search_58 hs hs1 C0 hK38 v2 _ _ _ _ hq hH (lv_sub hl [0, 1, 2] rfl)
      · have hq := hq.2 hc
        refine lv_aload_n hx hb dX2_search_52 rfl (lv_at hl 0 rfl) ?_
        refine lv_aload_n hx hb dX2_search_53 rfl (lv_at hl 1 rfl) ?_
        refine lv_iload_n hx hb dX2_search_54 rfl (lv_at hl 2 rfl) ?_
        obtain ⟨hp, hq⟩ := hq
        refine w_cV hH (w_rV (As := [.ref (G.1 k1), .int v2]) (rest := []) hX hK hE hH (c_X2_tryFirst hs hs1 _ _ hp) ck2 hs q3_55 q3_57 qs11 q1_6 q3_58 hd_X2_tryFirst ⟨Nat.le_of_ble_eq_true rfl, Nat.le_of_ble_eq_true rfl⟩ ⟨rfl, rfl⟩ rfl hl.1 rfl (Nat.le_of_ble_eq_true rfl) dX2_search_55 ⟨Nat.zero_le _, Nat.zero_le _⟩) (fun  I2 H locs hpo hH => ?_)
        have hq := hq  I2 hpo
        exact s_X2_search_58 hs hs1 C0 hK38 v2 _ _ _ _ hq hH (lv_sub hl [0, 1, 2] rfl)
set_option maxRecDepth 100000 in
set_option maxHeartbeats 4000000 in
theorem c_X2_search {l : Launch} {D : va_G} {cs : wC4} {ad : Nat → Nat} {b : Nat} {G : wG} {k : Nat} {k1 : Nat} (hs : wSh k = (0, 2)) (hs1 : wSh k1 = (0, 3))  (I : wI) (hp : pre_X2_search k k1 I) : Met l yX2_search (ws_ yX2_search cX2_search 3 none) rm_X2_search (va_Pc [.ref (G.1 k), .ref (G.1 k1)] (wPr D cs ad b G I)) (va_Qv (fun I' => post_X2_search k k1 I I') (wPo D cs b G) (fun q => b ≤ q)) 0 0 (fun q => b ≤ q) := by
  have hq := vc_X2_search k k1 I hp
  refine w_met (by decide) (Nat.le_of_ble_eq_true rfl) ?_
  intro p e s m below meth c hX hr hlk hK hE hH ls hl
  have C0 : wCx p m c s _ meth cX2_search 3 RX2 none D cs ad b := ⟨hX, hr, hlk, hK, hE⟩
  have hX : CallFix p m c cX2_search 3 s _ lw_all RX2 := hX
  have hx := hX.1
  have hb := hX.2.1
  have hown := hX.2.2.2.1
  have hts := hX.2.2.2.2
  have hl : lv_has ls 3 [(0, .ref (G.1 k)), (1, .ref (G.1 k1))] := hl
  unfold v_X2_search at hq
  refine lv_aload_n hx hb dX2_search_0 rfl (lv_at hl 0 rfl) ?_
  refine lv_iconst (v := -1) hx hb dX2_search_1 (by decide) ?_
  refine w_puti hX hK hH ck2 hs 5 fw2_5 q1_153 dX2_search_2 (fun I1 H locs hI hH => ?_)
  have hq := hq I1 hI
  refine lv_aload_n hx hb dX2_search_5 rfl (lv_at hl 0 rfl) ?_
  refine lv_iconst (v := -1) hx hb dX2_search_6 (by decide) ?_
  refine w_puti hX hK hH ck2 hs 6 fw2_6 q1_155 dX2_search_7 (fun I2 H locs hI hH => ?_)
  have hq := hq I2 hI
  refine lv_aload_n hx hb dX2_search_10 rfl (lv_at hl 1 rfl) ?_
  refine w_getiN hX hK hE hH ck3 hs1 3 fi3_3 qn1_66 dX2_search_11 ?_
  refine lv_if_ne (tgt := 18) hx hb dX2_search_14 (by decide) (fun hc => ?_) (fun hc => ?_)
  · have hq := hq.1 hc
    refine lv_aload_n hx hb dX2_search_18 rfl (lv_at hl 1 rfl) ?_
    obtain ⟨hp, hq⟩ := hq
    refine w_cIp hH (w_rV (As := []) (rest := []) hX hK hE hH (c_X3_opens hs1  _ hp) ck3 hs1 q3_35 q3_5 q3_6 q1_2 q3_7 hd_X3_opens ⟨Nat.le_of_ble_eq_true rfl, Nat.le_of_ble_eq_true rfl⟩ ⟨rfl, rfl⟩ rfl hl.1 rfl (Nat.le_of_ble_eq_true rfl) dX2_search_19 ⟨Nat.zero_le _, Nat.zero_le _⟩) (fun r3  H locs hpo hH => ?_)
    have hq := hq r3  hpo
    refine lv_if_eq (tgt := 31) hx hb dX2_search_22 (by decide) (fun hc => ?_) (fun hc => ?_)
    · have hq := hq.1 hc
      refine lv_aload_n hx hb dX2_search_31 rfl (lv_at hl 0 rfl) ?_
      refine lv_aload_n hx hb dX2_search_32 rfl (lv_at hl 1 rfl) ?_
      obtain ⟨hp, hq⟩ := hq
      refine w_cV hH (w_rV (As := [.ref (G.1 k1)]) (rest := []) hX hK hE hH (c_X2_listNear hs hs1  _ hp) ck2 hs q3_36 q3_38 qs8 q1_6 q3_39 hd_X2_listNear ⟨Nat.le_of_ble_eq_true rfl, Nat.le_of_ble_eq_true rfl⟩ ⟨rfl, rfl⟩ rfl hl.1 rfl (Nat.le_of_ble_eq_true rfl) dX2_search_33 ⟨Nat.zero_le _, Nat.zero_le _⟩) (fun  I4 H locs hpo hH => ?_)
      have hq := hq  I4 hpo
      refine lv_iconst (v := 0) hx hb dX2_search_36 (by decide) ?_
      refine lv_istore_n (lv' := [(2, .int (0 : Int32)), (0, .ref (G.1 k)), (1, .ref (G.1 k1))]) hx hb dX2_search_37 rfl hl (by decide) rfl (fun ls hl => ?_)
      obtain ⟨f, hq⟩ := hq
      exact s_X2_search_38 hs hs1 C0  f (0 : Int32) _ _ _ _ hq hH (lv_sub hl [1, 2, 0] rfl)
    · have hq := hq.2 hc
      refine lv_aload_n hx hb dX2_search_25 rfl (lv_at hl 0 rfl) ?_
      refine lv_iconst (v := 0) hx hb dX2_search_26 (by decide) ?_
      refine w_puti hX hK hH ck2 hs 5 fw2_5 q1_153 dX2_search_27 (fun I5 H locs hI hH => ?_)
      have hq := hq I5 hI
      exact w_eV hX hr hlk hH hq dX2_search_30
  · have hq := hq.2 hc
    exact w_eV hX hr hlk hH hq dX2_search_17
abbrev rm_X5_openIn : Room := { frames := 8, cells := 0, slots := 0, locals := 121 }
theorem hd_X5_openIn : yX5_openIn.cls = RX5 ∧ yX5_openIn.cls ≠ "java/lang/invoke/MethodHandle" ∧ yX5_openIn.cls ≠ "java/lang/invoke/VarHandle" ∧ (parseMethodDescriptor yX5_openIn.desc).map (fun d => d.parameters.length) = some 1 := by decide +kernel
set_option maxRecDepth 100000 in
set_option maxHeartbeats 4000000 in
theorem s_X5_openIn_51 {x1 : Int32} {Q : Int32 → wI → Prop} (C0 : wCx p m c s args meth cX5_openIn 2 RX5 (some .int) D cs ad b) : ∀ (t0 : Int32) (I : wI) (H : Heap) (locs : List Loc) (ls : Array Slot), v_X5_openIn_51 x1 Q t0 I → wH D cs b G I s H locs → lv_has ls 2 [] → W p l e rm_X5_openIn s m args below meth c H locs 0 0 (MQ below (va_Qi (Q) (wPo D cs b G) (fun q => b ≤ q)) args s 0 0 (fun q => b ≤ q)) (F0 m 51 ls [.int t0]) := by
  obtain ⟨hX, hr, hlk, hK, hE⟩ := id C0
  have hx := hX.1
  have hb := hX.2.1
  have hown := hX.2.2.2.1
  have hts := hX.2.2.2.2
  intro t0 I H locs ls hq hH hl
  unfold v_X5_openIn_51 at hq
  exact w_eI hX hr hlk hH hq dX5_openIn_51
set_option maxRecDepth 100000 in
set_option maxHeartbeats 4000000 in
theorem s_X5_openIn_9 {x1 : Int32} {Q : Int32 → wI → Prop} (C0 : wCx p m c s args meth cX5_openIn 2 RX5 (some .int) D cs ad b) : ∀  (I : wI) (H : Heap) (locs : List Loc) (ls : Array Slot), v_X5_openIn_9 x1 Q  I → wH D cs b G I s H locs → lv_has ls 2 [] → W p l e rm_X5_openIn s m args below meth c H locs 0 0 (MQ below (va_Qi (Q) (wPo D cs b G) (fun q => b ≤ q)) args s 0 0 (fun q => b ≤ q)) (F0 m 9 ls []) := by
  obtain ⟨hX, hr, hlk, hK, hE⟩ := id C0
  have hx := hX.1
  have hb := hX.2.1
  have hown := hX.2.2.2.1
  have hts := hX.2.2.2.2
  intro  I H locs ls hq hH hl
  unfold v_X5_openIn_9 at hq
  exact hq.elim
set_option maxRecDepth 100000 in
set_option maxHeartbeats 4000000 in
theorem c_X5_openIn {l : Launch} {D : va_G} {cs : wC4} {ad : Nat → Nat} {b : Nat} {G : wG} (x1 : Int32) (I : wI) (hp : pre_X5_openIn x1 I) : Met l yX5_openIn (ws_ yX5_openIn cX5_openIn 2 (some .int)) rm_X5_openIn (va_Pc [.ref (G.1 0), .int x1] (wPr D cs ad b G I)) (va_Qi (fun r I' => post_X5_openIn x1 I r I') (wPo D cs b G) (fun q => b ≤ q)) 0 0 (fun q => b ≤ q) := by
  have hq := vc_X5_openIn x1 I hp
  refine w_met (by decide) (Nat.le_of_ble_eq_true rfl) ?_
  intro p e s m below meth c hX hr hlk hK hE hH ls hl
  have C0 : wCx p m c s _ meth cX5_openIn 2 RX5 (some .int) D cs ad b := ⟨hX, hr, hlk, hK, hE⟩
  have hX : CallFix p m c cX5_openIn 2 s _ lw_all RX5 := hX
  have hx := hX.1
  have hb := hX.2.1
  have hown := hX.2.2.2.1
  have hts := hX.2.2.2.2
  have hl : lv_has ls 2 [(0, .ref (G.1 0)), (1, .int x1)] := hl
  unfold v_X5_openIn at hq
  refine lv_iload_n hx hb dX5_openIn_0 rfl (lv_at hl 1 rfl) ?_
  refine lv_if_lt (tgt := 9) hx hb dX5_openIn_1 (by decide) (fun hc => ?_) (fun hc => ?_)
  · have hq := hq.1 hc
    exact s_X5_openIn_9  C0   _ _ _ _ hq hH (lv_sub hl [] rfl)
  · have hq := hq.2 hc
    refine lv_iload_n hx hb dX5_openIn_4 rfl (lv_at hl 1 rfl) ?_
    refine lv_iconst (v := 1) hx hb dX5_openIn_5 (by decide) ?_
    refine lv_icmp_le (tgt := 19) hx hb dX5_openIn_6 (by decide) (fun hc => ?_) (fun hc => ?_)
    · have hq := hq.1 hc
      refine lv_aload_n hx hb dX5_openIn_19 rfl (lv_at hl 0 rfl) ?_
      refine w_getr hX hK hH ck5 sh0 8 36 36 fr5_8 rfl q1_180 dX5_openIn_20 ?_
      refine lv_aload_n hx hb dX5_openIn_23 rfl (lv_at hl 0 rfl) ?_
      refine w_getr hX hK hH ck5 sh0 0 1 1 fr5_0 rfl q1_172 dX5_openIn_24 ?_
      obtain ⟨hp, hq⟩ := hq
      refine w_cV hH (w_rV (As := [.ref (G.1 1)]) (rest := []) hX hK hE hH (c_X2_search (sf5_8 sh0) (sf5_0 sh0)  _ hp) ck2 (sf5_8 sh0) q3_31 q3_32 q3_33 q1_6 q3_34 hd_X2_search ⟨Nat.le_of_ble_eq_true rfl, Nat.le_of_ble_eq_true rfl⟩ ⟨rfl, rfl⟩ rfl hl.1 rfl (Nat.le_of_ble_eq_true rfl) dX5_openIn_27 ⟨Nat.zero_le _, Nat.zero_le _⟩) (fun  I1 H locs hpo hH => ?_)
      have hq := hq  I1 hpo
      refine lv_iload_n hx hb dX5_openIn_30 rfl (lv_at hl 1 rfl) ?_
      refine lv_if_ne (tgt := 44) hx hb dX5_openIn_31 (by decide) (fun hc => ?_) (fun hc => ?_)
      · have hq := hq.1 hc
        refine lv_aload_n hx hb dX5_openIn_44 rfl (lv_at hl 0 rfl) ?_
        refine w_getr hX hK hH ck5 sh0 8 36 36 fr5_8 rfl q1_180 dX5_openIn_45 ?_
        refine w_getiN hX hK hE hH ck2 (sf5_8 sh0) 6 fi2_6 qn1_156 dX5_openIn_48 ?_
        exact s_X5_openIn_51  C0  (I1 36 6) _ _ _ _ hq hH (lv_sub hl [] rfl)
      · have hq := hq.2 hc
        refine lv_aload_n hx hb dX5_openIn_34 rfl (lv_at hl 0 rfl) ?_
        refine w_getr hX hK hH ck5 sh0 8 36 36 fr5_8 rfl q1_180 dX5_openIn_35 ?_
        refine w_getiN hX hK hE hH ck2 (sf5_8 sh0) 5 fi2_5 qn1_154 dX5_openIn_38 ?_
        refine lv_goto (tgt := 51) hx hb dX5_openIn_41 (by decide) ?_
        exact s_X5_openIn_51  C0  (I1 36 5) _ _ _ _ hq hH (lv_sub hl [] rfl)
    · have hq := hq.2 hc
      exact s_X5_openIn_9  C0   _ _ _ _ hq hH (lv_sub hl [] rfl)
abbrev rm_X5_openInx : Room := { frames := 8, cells := 1, slots := 6, locals := 121 }

set_option maxRecDepth 100000 in
set_option maxHeartbeats 4000000 in
theorem s_X5_openInx_51 {x1 : Int32} {X : String → wI → Prop} (hst : l.stackTraces = false) (hEx : ∀ x ∈ c.exceptionTable.toList, False) (C0 : wCx p m c s args meth cX5_openIn 2 RX5 (some .int) D cs ad b) : ∀ (t0 : Int32) (I : wI) (H : Heap) (locs : List Loc) (ls : Array Slot), v_X5_openInx_51 x1 X t0 I → wH D cs b G I s H locs → lv_has ls 2 [] → W p l e rm_X5_openInx s m args below meth c H locs 0 0 (vx_MQ below (va_Qi (fun (_ : Int32) (_ : wI) => False) (wPo D cs b G) (fun q => b ≤ q)) (wXC D cs b G X) args s 1 6 (fun q => b ≤ q)) (F0 m 51 ls [.int t0]) := by
  obtain ⟨hX, hr, hlk, hK, hE⟩ := id C0
  have hx := hX.1
  have hb := hX.2.1
  have hown := hX.2.2.2.1
  have hts := hX.2.2.2.2
  intro t0 I H locs ls hq hH hl
  unfold v_X5_openInx_51 at hq
  exact hq.elim
set_option maxRecDepth 100000 in
set_option maxHeartbeats 4000000 in
theorem s_X5_openInx_9 {x1 : Int32} {X : String → wI → Prop} (hst : l.stackTraces = false) (hEx : ∀ x ∈ c.exceptionTable.toList, False) (C0 : wCx p m c s args meth cX5_openIn 2 RX5 (some .int) D cs ad b) : ∀  (I : wI) (H : Heap) (locs : List Loc) (ls : Array Slot), v_X5_openInx_9 x1 X  I → wH D cs b G I s H locs → lv_has ls 2 [] → W p l e rm_X5_openInx s m args below meth c H locs 0 0 (vx_MQ below (va_Qi (fun (_ : Int32) (_ : wI) => False) (wPo D cs b G) (fun q => b ≤ q)) (wXC D cs b G X) args s 1 6 (fun q => b ≤ q)) (F0 m 9 ls []) := by
  obtain ⟨hX, hr, hlk, hK, hE⟩ := id C0
  have hx := hX.1
  have hb := hX.2.1
  have hown := hX.2.2.2.1
  have hts := hX.2.2.2.2
  intro  I H locs ls hq hH hl
  unfold v_X5_openInx_9 at hq
  exact w_throw th_X5_66_235_70 hX hst hlk hEx hE hH hl.1 dX5_openIn_9 dX5_openIn_12 dX5_openIn_13 dX5_openIn_15 dX5_openIn_18 ⟨Nat.le_of_ble_eq_true rfl, Nat.le_of_ble_eq_true rfl, Nat.le_of_ble_eq_true rfl, Nat.le_of_ble_eq_true rfl⟩ hq
set_option maxRecDepth 100000 in
set_option maxHeartbeats 4000000 in
theorem c_X5_openInx {l : Launch} {D : va_G} {cs : wC4} {ad : Nat → Nat} {b : Nat} {G : wG} (hst : l.stackTraces = false) (x1 : Int32) (I : wI) (hp : pre_X5_openInx x1 I) : vx_Met l yX5_openIn (ws_ yX5_openIn cX5_openIn 2 (some .int)) rm_X5_openInx (va_Pc [.ref (G.1 0), .int x1] (wPr D cs ad b G I)) (va_Qi (fun (_ : Int32) (_ : wI) => False) (wPo D cs b G) (fun q => b ≤ q)) (wXC D cs b G (exc_X5_openIn x1 I)) 1 6 (fun q => b ≤ q) := by
  have hq := vc_X5_openInx x1 I hp
  refine w_metx (by decide) (Nat.le_of_ble_eq_true rfl) ?_
  intro p e s m below meth c hX hr hlk hEx hK hE hH ls hl
  have C0 : wCx p m c s _ meth cX5_openIn 2 RX5 (some .int) D cs ad b := ⟨hX, hr, hlk, hK, hE⟩
  have hX : CallFix p m c cX5_openIn 2 s _ lw_all RX5 := hX
  have hx := hX.1
  have hb := hX.2.1
  have hown := hX.2.2.2.1
  have hts := hX.2.2.2.2
  have hl : lv_has ls 2 [(0, .ref (G.1 0)), (1, .int x1)] := hl
  unfold v_X5_openInx at hq
  refine lv_iload_n hx hb dX5_openIn_0 rfl (lv_at hl 1 rfl) ?_
  refine lv_if_lt (tgt := 9) hx hb dX5_openIn_1 (by decide) (fun hc => ?_) (fun hc => ?_)
  · have hq := hq.1 hc
    exact s_X5_openInx_9 hst hEx C0   _ _ _ _ hq hH (lv_sub hl [] rfl)
  · have hq := hq.2 hc
    refine lv_iload_n hx hb dX5_openIn_4 rfl (lv_at hl 1 rfl) ?_
    refine lv_iconst (v := 1) hx hb dX5_openIn_5 (by decide) ?_
    refine lv_icmp_le (tgt := 19) hx hb dX5_openIn_6 (by decide) (fun hc => ?_) (fun hc => ?_)
    · have hq := hq.1 hc
      refine lv_aload_n hx hb dX5_openIn_19 rfl (lv_at hl 0 rfl) ?_
      refine w_getr hX hK hH ck5 sh0 8 36 36 fr5_8 rfl q1_180 dX5_openIn_20 ?_
      refine lv_aload_n hx hb dX5_openIn_23 rfl (lv_at hl 0 rfl) ?_
      refine w_getr hX hK hH ck5 sh0 0 1 1 fr5_0 rfl q1_172 dX5_openIn_24 ?_
      obtain ⟨hp, hq⟩ := hq
      refine w_cV hH (w_rV (As := [.ref (G.1 1)]) (rest := []) hX hK hE hH (c_X2_search (sf5_8 sh0) (sf5_0 sh0)  _ hp) ck2 (sf5_8 sh0) q3_31 q3_32 q3_33 q1_6 q3_34 hd_X2_search ⟨Nat.le_of_ble_eq_true rfl, Nat.le_of_ble_eq_true rfl⟩ ⟨rfl, rfl⟩ rfl hl.1 rfl (Nat.le_of_ble_eq_true rfl) dX5_openIn_27 ⟨Nat.zero_le _, Nat.zero_le _⟩) (fun  I1 H locs hpo hH => ?_)
      have hq := hq  I1 hpo
      refine lv_iload_n hx hb dX5_openIn_30 rfl (lv_at hl 1 rfl) ?_
      refine lv_if_ne (tgt := 44) hx hb dX5_openIn_31 (by decide) (fun hc => ?_) (fun hc => ?_)
      · have hq := hq.1 hc
        refine lv_aload_n hx hb dX5_openIn_44 rfl (lv_at hl 0 rfl) ?_
        refine w_getr hX hK hH ck5 sh0 8 36 36 fr5_8 rfl q1_180 dX5_openIn_45 ?_
        refine w_getiN hX hK hE hH ck2 (sf5_8 sh0) 6 fi2_6 qn1_156 dX5_openIn_48 ?_
        exact s_X5_openInx_51 hst hEx C0  (I1 36 6) _ _ _ _ hq hH (lv_sub hl [] rfl)
      · have hq := hq.2 hc
        refine lv_aload_n hx hb dX5_openIn_34 rfl (lv_at hl 0 rfl) ?_
        refine w_getr hX hK hH ck5 sh0 8 36 36 fr5_8 rfl q1_180 dX5_openIn_35 ?_
        refine w_getiN hX hK hE hH ck2 (sf5_8 sh0) 5 fi2_5 qn1_154 dX5_openIn_38 ?_
        refine lv_goto (tgt := 51) hx hb dX5_openIn_41 (by decide) ?_
        exact s_X5_openInx_51 hst hEx C0  (I1 36 5) _ _ _ _ hq hH (lv_sub hl [] rfl)
    · have hq := hq.2 hc
      exact s_X5_openInx_9 hst hEx C0   _ _ _ _ hq hH (lv_sub hl [] rfl)
abbrev rm_X5_ifTurned : Room := { frames := 9, cells := 0, slots := 0, locals := 140 }
theorem hd_X5_ifTurned : yX5_ifTurned.cls = RX5 ∧ yX5_ifTurned.cls ≠ "java/lang/invoke/MethodHandle" ∧ yX5_ifTurned.cls ≠ "java/lang/invoke/VarHandle" ∧ (parseMethodDescriptor yX5_ifTurned.desc).map (fun d => d.parameters.length) = some 2 := by decide +kernel
set_option maxRecDepth 100000 in
set_option maxHeartbeats 4000000 in
theorem s_X5_ifTurned_59 {x1 : Int32} {x2 : Int32} {Q : Int32 → wI → Prop} (C0 : wCx p m c s args meth cX5_ifTurned 3 RX5 (some .int) D cs ad b) : ∀ (t0 : Int32) (t1 : Int32) (I : wI) (H : Heap) (locs : List Loc) (ls : Array Slot), v_X5_ifTurned_59 x1 x2 Q t0 t1 I → wH D cs b G I s H locs → lv_has ls 3 [(0, .ref (G.1 0))] → W p l e rm_X5_ifTurned s m args below meth c H locs 0 0 (MQ below (va_Qi (Q) (wPo D cs b G) (fun q => b ≤ q)) args s 0 0 (fun q => b ≤ q)) (F0 m 59 ls [.int t0, .int t1, .ref (G.1 33), .ref (G.1 5)]) := by
  obtain ⟨hX, hr, hlk, hK, hE⟩ := id C0
  have hx := hX.1
  have hb := hX.2.1
  have hown := hX.2.2.2.1
  have hts := hX.2.2.2.2
  intro t0 t1 I H locs ls hq hH hl
  unfold v_X5_ifTurned_59 at hq
  obtain ⟨hp, hq⟩ := hq
  refine w_cIp hH (w_rS (As := [.int t1, .int t0]) (rest := [.ref (G.1 33), .ref (G.1 5)]) hX hK hE hH (c_X5_moveOf  _ _ _ hp) q2_161 q2_162 q1_1 q2_163 hd_X5_moveOf.2 ⟨Nat.le_of_ble_eq_true rfl, Nat.le_of_ble_eq_true rfl⟩ ⟨rfl, rfl⟩ rfl hl.1 rfl (Nat.le_of_ble_eq_true rfl) dX5_ifTurned_59 ⟨Nat.zero_le _, Nat.zero_le _⟩) (fun r1  H locs hpo hH => ?_)
  have hq := hq r1  hpo
  obtain ⟨hp, hq⟩ := hq
  refine w_cV hH (w_rV (As := [.ref (G.1 33), .int r1]) (rest := []) hX hK hE hH (c_X1_move (sf3_1 (sf5_0 sh0)) (sf5_7 sh0) _ _ hp) ck1 (sf3_1 (sf5_0 sh0)) q2_164 q2_165 q2_166 q1_4 q2_167 hd_X1_move ⟨Nat.le_of_ble_eq_true rfl, Nat.le_of_ble_eq_true rfl⟩ ⟨rfl, rfl⟩ rfl hl.1 rfl (Nat.le_of_ble_eq_true rfl) dX5_ifTurned_62 ⟨Nat.zero_le _, Nat.zero_le _⟩) (fun  I2 H locs hpo hH => ?_)
  have hq := hq  I2 hpo
  refine lv_aload_n hx hb dX5_ifTurned_65 rfl (lv_at hl 0 rfl) ?_
  refine w_getr hX hK hH ck5 sh0 0 1 1 fr5_0 rfl q1_172 dX5_ifTurned_66 ?_
  refine lv_aload_n hx hb dX5_ifTurned_69 rfl (lv_at hl 0 rfl) ?_
  refine w_getr hX hK hH ck5 sh0 7 33 33 fr5_7 rfl q1_179 dX5_ifTurned_70 ?_
  obtain ⟨hp, hq⟩ := hq
  refine w_cIp hH (w_rV (As := [.ref (G.1 33)]) (rest := []) hX hK hE hH (c_X3_asInSecret (sf5_0 sh0) (sf5_7 sh0)  _ hp) ck3 (sf5_0 sh0) q3_16 q3_9 q3_10 q1_2 q3_11 hd_X3_asInSecret ⟨Nat.le_of_ble_eq_true rfl, Nat.le_of_ble_eq_true rfl⟩ ⟨rfl, rfl⟩ rfl hl.1 rfl (Nat.le_of_ble_eq_true rfl) dX5_ifTurned_73 ⟨Nat.zero_le _, Nat.zero_le _⟩) (fun r3  H locs hpo hH => ?_)
  have hq := hq r3  hpo
  exact w_eI hX hr hlk hH hq dX5_ifTurned_76
set_option maxRecDepth 100000 in
set_option maxHeartbeats 4000000 in
theorem s_X5_ifTurned_13 {x1 : Int32} {x2 : Int32} {Q : Int32 → wI → Prop} (C0 : wCx p m c s args meth cX5_ifTurned 3 RX5 (some .int) D cs ad b) : ∀  (I : wI) (H : Heap) (locs : List Loc) (ls : Array Slot), v_X5_ifTurned_13 x1 x2 Q  I → wH D cs b G I s H locs → lv_has ls 3 [] → W p l e rm_X5_ifTurned s m args below meth c H locs 0 0 (MQ below (va_Qi (Q) (wPo D cs b G) (fun q => b ≤ q)) args s 0 0 (fun q => b ≤ q)) (F0 m 13 ls []) := by
  obtain ⟨hX, hr, hlk, hK, hE⟩ := id C0
  have hx := hX.1
  have hb := hX.2.1
  have hown := hX.2.2.2.1
  have hts := hX.2.2.2.2
  intro  I H locs ls hq hH hl
  unfold v_X5_ifTurned_13 at hq
  exact hq.elim
set_option maxRecDepth 100000 in
set_option maxHeartbeats 4000000 in
theorem c_X5_ifTurned {l : Launch} {D : va_G} {cs : wC4} {ad : Nat → Nat} {b : Nat} {G : wG} (x1 : Int32) (x2 : Int32) (I : wI) (hp : pre_X5_ifTurned x1 x2 I) : Met l yX5_ifTurned (ws_ yX5_ifTurned cX5_ifTurned 3 (some .int)) rm_X5_ifTurned (va_Pc [.ref (G.1 0), .int x1, .int x2] (wPr D cs ad b G I)) (va_Qi (fun r I' => post_X5_ifTurned x1 x2 I r I') (wPo D cs b G) (fun q => b ≤ q)) 0 0 (fun q => b ≤ q) := by
  have hq := vc_X5_ifTurned x1 x2 I hp
  refine w_met (by decide) (Nat.le_of_ble_eq_true rfl) ?_
  intro p e s m below meth c hX hr hlk hK hE hH ls hl
  have C0 : wCx p m c s _ meth cX5_ifTurned 3 RX5 (some .int) D cs ad b := ⟨hX, hr, hlk, hK, hE⟩
  have hX : CallFix p m c cX5_ifTurned 3 s _ lw_all RX5 := hX
  have hx := hX.1
  have hb := hX.2.1
  have hown := hX.2.2.2.1
  have hts := hX.2.2.2.2
  have hl : lv_has ls 3 [(0, .ref (G.1 0)), (1, .int x1), (2, .int x2)] := hl
  unfold v_X5_ifTurned at hq
  refine lv_iload_n hx hb dX5_ifTurned_0 rfl (lv_at hl 1 rfl) ?_
  obtain ⟨hp, hq⟩ := hq
  refine w_cVp hH (w_rS (As := [.int x1]) (rest := []) hX hK hE hH (c_X5_requireKey  _ _ hp) q2_141 q2_142 q1_1 q2_143 hd_X5_requireKey.2 ⟨Nat.le_of_ble_eq_true rfl, Nat.le_of_ble_eq_true rfl⟩ ⟨rfl, rfl⟩ rfl hl.1 rfl (Nat.le_of_ble_eq_true rfl) dX5_ifTurned_1 ⟨Nat.zero_le _, Nat.zero_le _⟩) (fun   H locs hpo hH => ?_)
  have hq := hq   hpo
  refine lv_iload_n hx hb dX5_ifTurned_4 rfl (lv_at hl 2 rfl) ?_
  refine lv_if_lt (tgt := 13) hx hb dX5_ifTurned_5 (by decide) (fun hc => ?_) (fun hc => ?_)
  · have hq := hq.1 hc
    exact s_X5_ifTurned_13  C0   _ _ _ _ hq hH (lv_sub hl [] rfl)
  · have hq := hq.2 hc
    refine lv_iload_n hx hb dX5_ifTurned_8 rfl (lv_at hl 2 rfl) ?_
    refine lv_iconst (v := 1) hx hb dX5_ifTurned_9 (by decide) ?_
    refine lv_icmp_le (tgt := 23) hx hb dX5_ifTurned_10 (by decide) (fun hc => ?_) (fun hc => ?_)
    · have hq := hq.1 hc
      refine lv_aload_n hx hb dX5_ifTurned_23 rfl (lv_at hl 0 rfl) ?_
      refine w_getr hX hK hH ck5 sh0 7 33 33 fr5_7 rfl q1_179 dX5_ifTurned_24 ?_
      refine lv_aload_n hx hb dX5_ifTurned_27 rfl (lv_at hl 0 rfl) ?_
      refine w_getr hX hK hH ck5 sh0 0 1 1 fr5_0 rfl q1_172 dX5_ifTurned_28 ?_
      refine w_getrN hX hK hE hH ck3 (sf5_0 sh0) 0 1 2 fr3_0 rfl qn1_58 dX5_ifTurned_31 ?_
      obtain ⟨hp, hq⟩ := hq
      refine w_cV hH (w_rV (As := [.ref (G.1 2)]) (rest := []) hX hK hE hH (c_X0_copyFrom (sf5_7 sh0) (sf3_0 (sf5_0 sh0))  _ hp) ck0 (sf5_7 sh0) q2_184 q2_45 q2_46 q1_3 q2_47 hd_X0_copyFrom ⟨Nat.le_of_ble_eq_true rfl, Nat.le_of_ble_eq_true rfl⟩ ⟨rfl, rfl⟩ rfl hl.1 rfl (Nat.le_of_ble_eq_true rfl) dX5_ifTurned_34 ⟨Nat.zero_le _, Nat.zero_le _⟩) (fun  I1 H locs hpo hH => ?_)
      have hq := hq  I1 hpo
      refine lv_aload_n hx hb dX5_ifTurned_37 rfl (lv_at hl 0 rfl) ?_
      refine w_getr hX hK hH ck5 sh0 0 1 1 fr5_0 rfl q1_172 dX5_ifTurned_38 ?_
      refine w_getrN hX hK hE hH ck3 (sf5_0 sh0) 1 4 5 fr3_1 rfl qn1_61 dX5_ifTurned_41 ?_
      refine lv_aload_n hx hb dX5_ifTurned_44 rfl (lv_at hl 0 rfl) ?_
      refine w_getr hX hK hH ck5 sh0 7 33 33 fr5_7 rfl q1_179 dX5_ifTurned_45 ?_
      refine lv_iload_n hx hb dX5_ifTurned_48 rfl (lv_at hl 1 rfl) ?_
      refine lv_iload_n hx hb dX5_ifTurned_49 rfl (lv_at hl 2 rfl) ?_
      refine lv_iconst (v := 1) hx hb dX5_ifTurned_50 (by decide) ?_
      refine lv_icmp_ne (tgt := 58) hx hb dX5_ifTurned_51 (by decide) (fun hc => ?_) (fun hc => ?_)
      · have hq := hq.1 hc
        refine lv_iconst (v := 0) hx hb dX5_ifTurned_58 (by decide) ?_
        exact s_X5_ifTurned_59  C0  (0 : Int32) x1 _ _ _ _ hq hH (lv_sub hl [0] rfl)
      · have hq := hq.2 hc
        refine lv_iconst (v := 1) hx hb dX5_ifTurned_54 (by decide) ?_
        refine lv_goto (tgt := 59) hx hb dX5_ifTurned_55 (by decide) ?_
        exact s_X5_ifTurned_59  C0  (1 : Int32) x1 _ _ _ _ hq hH (lv_sub hl [0] rfl)
    · have hq := hq.2 hc
      exact s_X5_ifTurned_13  C0   _ _ _ _ hq hH (lv_sub hl [] rfl)
abbrev rm_X5_ifTurnedx : Room := { frames := 9, cells := 1, slots := 6, locals := 140 }

set_option maxRecDepth 100000 in
set_option maxHeartbeats 4000000 in
theorem s_X5_ifTurnedx_59 {x1 : Int32} {x2 : Int32} {X : String → wI → Prop} (hst : l.stackTraces = false) (hEx : ∀ x ∈ c.exceptionTable.toList, False) (C0 : wCx p m c s args meth cX5_ifTurned 3 RX5 (some .int) D cs ad b) : ∀ (t0 : Int32) (t1 : Int32) (I : wI) (H : Heap) (locs : List Loc) (ls : Array Slot), v_X5_ifTurnedx_59 x1 x2 X t0 t1 I → wH D cs b G I s H locs → lv_has ls 3 [(0, .ref (G.1 0))] → W p l e rm_X5_ifTurnedx s m args below meth c H locs 0 0 (vx_MQ below (va_Qi (fun (_ : Int32) (_ : wI) => False) (wPo D cs b G) (fun q => b ≤ q)) (wXC D cs b G X) args s 1 6 (fun q => b ≤ q)) (F0 m 59 ls [.int t0, .int t1, .ref (G.1 33), .ref (G.1 5)]) := by
  obtain ⟨hX, hr, hlk, hK, hE⟩ := id C0
  have hx := hX.1
  have hb := hX.2.1
  have hown := hX.2.2.2.1
  have hts := hX.2.2.2.2
  intro t0 t1 I H locs ls hq hH hl
  unfold v_X5_ifTurnedx_59 at hq
  obtain ⟨hp, hq⟩ := hq
  refine w_cIp hH (w_rS (As := [.int t1, .int t0]) (rest := [.ref (G.1 33), .ref (G.1 5)]) hX hK hE hH (c_X5_moveOf  _ _ _ hp) q2_161 q2_162 q1_1 q2_163 hd_X5_moveOf.2 ⟨Nat.le_of_ble_eq_true rfl, Nat.le_of_ble_eq_true rfl⟩ ⟨rfl, rfl⟩ rfl hl.1 rfl (Nat.le_of_ble_eq_true rfl) dX5_ifTurned_59 ⟨Nat.zero_le _, Nat.zero_le _⟩) (fun r1  H locs hpo hH => ?_)
  have hq := hq r1  hpo
  obtain ⟨hp, hq⟩ := hq
  refine w_cV hH (w_rV (As := [.ref (G.1 33), .int r1]) (rest := []) hX hK hE hH (c_X1_move (sf3_1 (sf5_0 sh0)) (sf5_7 sh0) _ _ hp) ck1 (sf3_1 (sf5_0 sh0)) q2_164 q2_165 q2_166 q1_4 q2_167 hd_X1_move ⟨Nat.le_of_ble_eq_true rfl, Nat.le_of_ble_eq_true rfl⟩ ⟨rfl, rfl⟩ rfl hl.1 rfl (Nat.le_of_ble_eq_true rfl) dX5_ifTurned_62 ⟨Nat.zero_le _, Nat.zero_le _⟩) (fun  I2 H locs hpo hH => ?_)
  have hq := hq  I2 hpo
  refine lv_aload_n hx hb dX5_ifTurned_65 rfl (lv_at hl 0 rfl) ?_
  refine w_getr hX hK hH ck5 sh0 0 1 1 fr5_0 rfl q1_172 dX5_ifTurned_66 ?_
  refine lv_aload_n hx hb dX5_ifTurned_69 rfl (lv_at hl 0 rfl) ?_
  refine w_getr hX hK hH ck5 sh0 7 33 33 fr5_7 rfl q1_179 dX5_ifTurned_70 ?_
  obtain ⟨hp, hq⟩ := hq
  refine w_cIp hH (w_rV (As := [.ref (G.1 33)]) (rest := []) hX hK hE hH (c_X3_asInSecret (sf5_0 sh0) (sf5_7 sh0)  _ hp) ck3 (sf5_0 sh0) q3_16 q3_9 q3_10 q1_2 q3_11 hd_X3_asInSecret ⟨Nat.le_of_ble_eq_true rfl, Nat.le_of_ble_eq_true rfl⟩ ⟨rfl, rfl⟩ rfl hl.1 rfl (Nat.le_of_ble_eq_true rfl) dX5_ifTurned_73 ⟨Nat.zero_le _, Nat.zero_le _⟩) (fun r3  H locs hpo hH => ?_)
  have hq := hq r3  hpo
  exact hq.elim
set_option maxRecDepth 100000 in
set_option maxHeartbeats 4000000 in
theorem s_X5_ifTurnedx_13 {x1 : Int32} {x2 : Int32} {X : String → wI → Prop} (hst : l.stackTraces = false) (hEx : ∀ x ∈ c.exceptionTable.toList, False) (C0 : wCx p m c s args meth cX5_ifTurned 3 RX5 (some .int) D cs ad b) : ∀  (I : wI) (H : Heap) (locs : List Loc) (ls : Array Slot), v_X5_ifTurnedx_13 x1 x2 X  I → wH D cs b G I s H locs → lv_has ls 3 [] → W p l e rm_X5_ifTurnedx s m args below meth c H locs 0 0 (vx_MQ below (va_Qi (fun (_ : Int32) (_ : wI) => False) (wPo D cs b G) (fun q => b ≤ q)) (wXC D cs b G X) args s 1 6 (fun q => b ≤ q)) (F0 m 13 ls []) := by
  obtain ⟨hX, hr, hlk, hK, hE⟩ := id C0
  have hx := hX.1
  have hb := hX.2.1
  have hown := hX.2.2.2.1
  have hts := hX.2.2.2.2
  intro  I H locs ls hq hH hl
  unfold v_X5_ifTurnedx_13 at hq
  exact w_throw th_X5_66_246_70 hX hst hlk hEx hE hH hl.1 dX5_ifTurned_13 dX5_ifTurned_16 dX5_ifTurned_17 dX5_ifTurned_19 dX5_ifTurned_22 ⟨Nat.le_of_ble_eq_true rfl, Nat.le_of_ble_eq_true rfl, Nat.le_of_ble_eq_true rfl, Nat.le_of_ble_eq_true rfl⟩ hq
set_option maxRecDepth 100000 in
set_option maxHeartbeats 4000000 in
theorem c_X5_ifTurnedx {l : Launch} {D : va_G} {cs : wC4} {ad : Nat → Nat} {b : Nat} {G : wG} (hst : l.stackTraces = false) (x1 : Int32) (x2 : Int32) (I : wI) (hp : pre_X5_ifTurnedx x1 x2 I) : vx_Met l yX5_ifTurned (ws_ yX5_ifTurned cX5_ifTurned 3 (some .int)) rm_X5_ifTurnedx (va_Pc [.ref (G.1 0), .int x1, .int x2] (wPr D cs ad b G I)) (va_Qi (fun (_ : Int32) (_ : wI) => False) (wPo D cs b G) (fun q => b ≤ q)) (wXC D cs b G (exc_X5_ifTurned x1 x2 I)) 1 6 (fun q => b ≤ q) := by
  have hq := vc_X5_ifTurnedx x1 x2 I hp
  refine w_metx (by decide) (Nat.le_of_ble_eq_true rfl) ?_
  intro p e s m below meth c hX hr hlk hEx hK hE hH ls hl
  have C0 : wCx p m c s _ meth cX5_ifTurned 3 RX5 (some .int) D cs ad b := ⟨hX, hr, hlk, hK, hE⟩
  have hX : CallFix p m c cX5_ifTurned 3 s _ lw_all RX5 := hX
  have hx := hX.1
  have hb := hX.2.1
  have hown := hX.2.2.2.1
  have hts := hX.2.2.2.2
  have hl : lv_has ls 3 [(0, .ref (G.1 0)), (1, .int x1), (2, .int x2)] := hl
  unfold v_X5_ifTurnedx at hq
  refine lv_iload_n hx hb dX5_ifTurned_0 rfl (lv_at hl 1 rfl) ?_
  by_cases hok : ok_X5_requireKey x1 I
  · have hq := hq.1 hok
    obtain ⟨hp, hq⟩ := hq
    refine w_cVp hH (w_rS (As := [.int x1]) (rest := []) hX hK hE hH (c_X5_requireKey  _ _ hp) q2_141 q2_142 q1_1 q2_143 hd_X5_requireKey.2 ⟨Nat.le_of_ble_eq_true rfl, Nat.le_of_ble_eq_true rfl⟩ ⟨rfl, rfl⟩ rfl hl.1 rfl (Nat.le_of_ble_eq_true rfl) dX5_ifTurned_1 ⟨Nat.zero_le _, Nat.zero_le _⟩) (fun   H locs hpo hH => ?_)
    have hq := hq   hpo
    refine lv_iload_n hx hb dX5_ifTurned_4 rfl (lv_at hl 2 rfl) ?_
    refine lv_if_lt (tgt := 13) hx hb dX5_ifTurned_5 (by decide) (fun hc => ?_) (fun hc => ?_)
    · have hq := hq.1 hc
      exact s_X5_ifTurnedx_13 hst hEx C0   _ _ _ _ hq hH (lv_sub hl [] rfl)
    · have hq := hq.2 hc
      refine lv_iload_n hx hb dX5_ifTurned_8 rfl (lv_at hl 2 rfl) ?_
      refine lv_iconst (v := 1) hx hb dX5_ifTurned_9 (by decide) ?_
      refine lv_icmp_le (tgt := 23) hx hb dX5_ifTurned_10 (by decide) (fun hc => ?_) (fun hc => ?_)
      · have hq := hq.1 hc
        refine lv_aload_n hx hb dX5_ifTurned_23 rfl (lv_at hl 0 rfl) ?_
        refine w_getr hX hK hH ck5 sh0 7 33 33 fr5_7 rfl q1_179 dX5_ifTurned_24 ?_
        refine lv_aload_n hx hb dX5_ifTurned_27 rfl (lv_at hl 0 rfl) ?_
        refine w_getr hX hK hH ck5 sh0 0 1 1 fr5_0 rfl q1_172 dX5_ifTurned_28 ?_
        refine w_getrN hX hK hE hH ck3 (sf5_0 sh0) 0 1 2 fr3_0 rfl qn1_58 dX5_ifTurned_31 ?_
        obtain ⟨hp, hq⟩ := hq
        refine w_cV hH (w_rV (As := [.ref (G.1 2)]) (rest := []) hX hK hE hH (c_X0_copyFrom (sf5_7 sh0) (sf3_0 (sf5_0 sh0))  _ hp) ck0 (sf5_7 sh0) q2_184 q2_45 q2_46 q1_3 q2_47 hd_X0_copyFrom ⟨Nat.le_of_ble_eq_true rfl, Nat.le_of_ble_eq_true rfl⟩ ⟨rfl, rfl⟩ rfl hl.1 rfl (Nat.le_of_ble_eq_true rfl) dX5_ifTurned_34 ⟨Nat.zero_le _, Nat.zero_le _⟩) (fun  I1 H locs hpo hH => ?_)
        have hq := hq  I1 hpo
        refine lv_aload_n hx hb dX5_ifTurned_37 rfl (lv_at hl 0 rfl) ?_
        refine w_getr hX hK hH ck5 sh0 0 1 1 fr5_0 rfl q1_172 dX5_ifTurned_38 ?_
        refine w_getrN hX hK hE hH ck3 (sf5_0 sh0) 1 4 5 fr3_1 rfl qn1_61 dX5_ifTurned_41 ?_
        refine lv_aload_n hx hb dX5_ifTurned_44 rfl (lv_at hl 0 rfl) ?_
        refine w_getr hX hK hH ck5 sh0 7 33 33 fr5_7 rfl q1_179 dX5_ifTurned_45 ?_
        refine lv_iload_n hx hb dX5_ifTurned_48 rfl (lv_at hl 1 rfl) ?_
        refine lv_iload_n hx hb dX5_ifTurned_49 rfl (lv_at hl 2 rfl) ?_
        refine lv_iconst (v := 1) hx hb dX5_ifTurned_50 (by decide) ?_
        refine lv_icmp_ne (tgt := 58) hx hb dX5_ifTurned_51 (by decide) (fun hc => ?_) (fun hc => ?_)
        · have hq := hq.1 hc
          refine lv_iconst (v := 0) hx hb dX5_ifTurned_58 (by decide) ?_
          exact s_X5_ifTurnedx_59 hst hEx C0  (0 : Int32) x1 _ _ _ _ hq hH (lv_sub hl [0] rfl)
        · have hq := hq.2 hc
          refine lv_iconst (v := 1) hx hb dX5_ifTurned_54 (by decide) ?_
          refine lv_goto (tgt := 59) hx hb dX5_ifTurned_55 (by decide) ?_
          exact s_X5_ifTurnedx_59 hst hEx C0  (1 : Int32) x1 _ _ _ _ hq hH (lv_sub hl [0] rfl)
      · have hq := hq.2 hc
        exact s_X5_ifTurnedx_13 hst hEx C0   _ _ _ _ hq hH (lv_sub hl [] rfl)
  · have hq := hq.2 hok
    obtain ⟨hp, hq⟩ := hq
    exact w_xV hEx hlk hH (w_xrS (As := [.int x1]) (rest := []) hX hK hE hH (c_X5_requireKeyx hst  _ _ hp) q2_141 q2_142 q1_1 q2_143 hd_X5_requireKey.2 ⟨Nat.le_of_ble_eq_true rfl, Nat.le_of_ble_eq_true rfl⟩ ⟨rfl, rfl⟩ rfl hl.1 rfl (Nat.le_of_ble_eq_true rfl) dX5_ifTurned_1 ⟨Nat.le_of_ble_eq_true rfl, Nat.le_of_ble_eq_true rfl⟩) (fun E u h => by obtain ⟨h1, h2⟩ := h; subst h1; exact hq E h2)
abbrev rm_X5_closest : Room := { frames := 3, cells := 0, slots := 0, locals := 76 }
theorem hd_X5_closest : yX5_closest.cls = RX5 ∧ yX5_closest.cls ≠ "java/lang/invoke/MethodHandle" ∧ yX5_closest.cls ≠ "java/lang/invoke/VarHandle" ∧ (parseMethodDescriptor yX5_closest.desc).map (fun d => d.parameters.length) = some 0 := by decide +kernel
set_option maxRecDepth 100000 in
set_option maxHeartbeats 4000000 in
theorem s_X5_closest_58 {Q : Int32 → wI → Prop} {K7 : Int32 → Int32 → Int32 → wI → Prop} {K17 : Int32 → Int32 → Int32 → Int32 → wI → Prop} (C0 : wCx p m c s args meth cX5_closest 6 RX5 (some .int) D cs ad b) (hK7 : ∀ (v1 : Int32) (v2 : Int32) (v3 : Int32) (I : wI) (H : Heap) (locs : List Loc) (ls : Array Slot), K7 v1 v2 v3 I → wH D cs b G I s H locs → lv_has ls 6 [(0, .ref (G.1 0)), (1, .int v1), (2, .int v2), (3, .int v3)] → W p l e rm_X5_closest s m args below meth c H locs 0 0 (MQ below (va_Qi (Q) (wPo D cs b G) (fun q => b ≤ q)) args s 0 0 (fun q => b ≤ q)) (F0 m 7 ls [])) (hK17 : ∀ (v1 : Int32) (v2 : Int32) (v3 : Int32) (v4 : Int32) (I : wI) (H : Heap) (locs : List Loc) (ls : Array Slot), K17 v1 v2 v3 v4 I → wH D cs b G I s H locs → lv_has ls 6 [(0, .ref (G.1 0)), (1, .int v1), (2, .int v2), (3, .int v3), (4, .int v4)] → W p l e rm_X5_closest s m args below meth c H locs 0 0 (MQ below (va_Qi (Q) (wPo D cs b G) (fun q => b ≤ q)) args s 0 0 (fun q => b ≤ q)) (F0 m 17 ls [])) : ∀ (v1 : Int32) (v2 : Int32) (v3 : Int32) (v4 : Int32) (I : wI) (H : Heap) (locs : List Loc) (ls : Array Slot), v_X5_closest_58 Q K7 K17 v1 v2 v3 v4 I → wH D cs b G I s H locs → lv_has ls 6 [(0, .ref (G.1 0)), (1, .int v1), (2, .int v2), (3, .int v3), (4, .int v4)] → W p l e rm_X5_closest s m args below meth c H locs 0 0 (MQ below (va_Qi (Q) (wPo D cs b G) (fun q => b ≤ q)) args s 0 0 (fun q => b ≤ q)) (F0 m 58 ls []) := by
  obtain ⟨hX, hr, hlk, hK, hE⟩ := id C0
  have hx := hX.1
  have hb := hX.2.1
  have hown := hX.2.2.2.1
  have hts := hX.2.2.2.2
  intro v1 v2 v3 v4 I H locs ls hq hH hl
  unfold v_X5_closest_58 at hq
  refine lv_iinc (v := (v4 + (1 : Int32))) (lv' := [(4, .int (v4 + (1 : Int32))), (0, .ref (G.1 0)), (1, .int v1), (2, .int v2), (3, .int v3)]) hx hb dX5_closest_58 hl (k := 4) rfl rfl (by decide) rfl (fun ls hl => ?_)
  refine lv_goto (tgt := 17) hx hb dX5_closest_61 (by decide) ?_
  exact hK17 v1 v2 v3 (v4 + (1 : Int32)) _ _ _ _ hq hH (lv_sub hl [1, 2, 3, 4, 0] rfl)
set_option maxRecDepth 100000 in
set_option maxHeartbeats 4000000 in
theorem s_X5_closest_17 {Q : Int32 → wI → Prop} {K7 : Int32 → Int32 → Int32 → wI → Prop} (C0 : wCx p m c s args meth cX5_closest 6 RX5 (some .int) D cs ad b) (hK7 : ∀ (v1 : Int32) (v2 : Int32) (v3 : Int32) (I : wI) (H : Heap) (locs : List Loc) (ls : Array Slot), K7 v1 v2 v3 I → wH D cs b G I s H locs → lv_has ls 6 [(0, .ref (G.1 0)), (1, .int v1), (2, .int v2), (3, .int v3)] → W p l e rm_X5_closest s m args below meth c H locs 0 0 (MQ below (va_Qi (Q) (wPo D cs b G) (fun q => b ≤ q)) args s 0 0 (fun q => b ≤ q)) (F0 m 7 ls [])) : ∀ (f : Nat) (v1 : Int32) (v2 : Int32) (v3 : Int32) (v4 : Int32) (I : wI) (H : Heap) (locs : List Loc) (ls : Array Slot), v_X5_closest_17 Q K7 f v1 v2 v3 v4 I → wH D cs b G I s H locs → lv_has ls 6 [(0, .ref (G.1 0)), (1, .int v1), (2, .int v2), (3, .int v3), (4, .int v4)] → W p l e rm_X5_closest s m args below meth c H locs 0 0 (MQ below (va_Qi (Q) (wPo D cs b G) (fun q => b ≤ q)) args s 0 0 (fun q => b ≤ q)) (F0 m 17 ls []) := by
  obtain ⟨hX, hr, hlk, hK, hE⟩ := id C0
  have hx := hX.1
  have hb := hX.2.1
  have hown := hX.2.2.2.1
  have hts := hX.2.2.2.2
  intro f
  induction f with
  | zero =>
    intro v1 v2 v3 v4 I H locs ls hq
    exact hq.elim
  | succ f hK17 =>
    intro v1 v2 v3 v4 I H locs ls hq hH hl
    have hq : g_X5_closest_17 Q K7 (v_X5_closest_17 Q K7 f) v1 v2 v3 v4 I := hq
    unfold g_X5_closest_17 at hq
    refine lv_iload hx hb dX5_closest_17 (lv_at hl 4 rfl) ?_
    refine lv_iconst (v := 5) hx hb dX5_closest_19 (by decide) ?_
    refine lv_icmp_ge (tgt := 64) hx hb dX5_closest_20 (by decide) (fun hc => ?_) (fun hc => ?_)
    · have hq := hq.1 hc
      refine lv_iinc (v := (v3 + (1 : Int32))) (lv' := [(3, .int (v3 + (1 : Int32))), (0, .ref (G.1 0)), (1, .int v1), (2, .int v2), (4, .int v4)]) hx hb dX5_closest_64 hl (k := 3) rfl rfl (by decide) rfl (fun ls hl => ?_)
      refine lv_goto (tgt := 7) hx hb dX5_closest_67 (by decide) ?_
      exact hK7 v1 v2 (v3 + (1 : Int32)) _ _ _ _ hq hH (lv_sub hl [1, 2, 3, 0] rfl)
    · have hq := hq.2 hc
      refine lv_aload_n hx hb dX5_closest_23 rfl (lv_at hl 0 rfl) ?_
      refine lv_iload_n hx hb dX5_closest_24 rfl (lv_at hl 3 rfl) ?_
      refine lv_iload hx hb dX5_closest_25 (lv_at hl 4 rfl) ?_
      obtain ⟨hp, hq⟩ := hq
      refine w_cV hH (w_rV (As := [.int v3, .int v4]) (rest := []) hX hK hE hH (c_X5_showPair  _ _ _ hp) ck5 sh0 q2_223 q2_225 qs7 q1_1 q2_226 hd_X5_showPair ⟨Nat.le_of_ble_eq_true rfl, Nat.le_of_ble_eq_true rfl⟩ ⟨rfl, rfl⟩ rfl hl.1 rfl (Nat.le_of_ble_eq_true rfl) dX5_closest_27 ⟨Nat.zero_le _, Nat.zero_le _⟩) (fun  I1 H locs hpo hH => ?_)
      have hq := hq  I1 hpo
      refine lv_aload_n hx hb dX5_closest_30 rfl (lv_at hl 0 rfl) ?_
      refine w_getr hX hK hH ck5 sh0 6 30 30 fr5_6 rfl q1_178 dX5_closest_31 ?_
      obtain ⟨hp, hq⟩ := hq
      refine w_cIp hH (w_rV (As := []) (rest := []) hX hK hE hH (c_X0_reach (sf5_6 sh0)  _ hp) ck0 (sf5_6 sh0) q2_186 q2_187 q2_188 q1_3 q2_189 hd_X0_reach ⟨Nat.le_of_ble_eq_true rfl, Nat.le_of_ble_eq_true rfl⟩ ⟨rfl, rfl⟩ rfl hl.1 rfl (Nat.le_of_ble_eq_true rfl) dX5_closest_34 ⟨Nat.zero_le _, Nat.zero_le _⟩) (fun r2  H locs hpo hH => ?_)
      have hq := hq r2  hpo
      obtain ⟨hp, hq⟩ := hq
      refine w_cIp hH (w_rS (As := [.int r2]) (rest := []) hX hK hE hH (c_J_bitCount  _ _ hp) q2_227 q2_228 q1_12 q2_229 hd_J_bitCount.2 ⟨Nat.le_of_ble_eq_true rfl, Nat.le_of_ble_eq_true rfl⟩ ⟨rfl, rfl⟩ rfl hl.1 rfl (Nat.le_of_ble_eq_true rfl) dX5_closest_37 ⟨Nat.zero_le _, Nat.zero_le _⟩) (fun r3  H locs hpo hH => ?_)
      have hq := hq r3  hpo
      refine lv_istore (lv' := [(5, .int r3), (0, .ref (G.1 0)), (1, .int v1), (2, .int v2), (3, .int v3), (4, .int v4)]) hx hb dX5_closest_40 hl (by decide) rfl (fun ls hl => ?_)
      refine lv_iload hx hb dX5_closest_42 (lv_at hl 0 rfl) ?_
      refine lv_iload_n hx hb dX5_closest_44 rfl (lv_at hl 3 rfl) ?_
      refine lv_icmp_ge (tgt := 58) hx hb dX5_closest_45 (by decide) (fun hc => ?_) (fun hc => ?_)
      · have hq := hq.1 hc
        exact s_X5_closest_58  C0 hK7 hK17 v1 v2 v3 v4 _ _ _ _ hq hH (lv_sub hl [1, 2, 3, 4, 5] rfl)
      · have hq := hq.2 hc
        refine lv_iload hx hb dX5_closest_48 (lv_at hl 0 rfl) ?_
        refine lv_istore_n (lv' := [(2, .int r3), (5, .int r3), (0, .ref (G.1 0)), (1, .int v1), (3, .int v3), (4, .int v4)]) hx hb dX5_closest_50 rfl hl (by decide) rfl (fun ls hl => ?_)
        refine lv_iconst (v := 5) hx hb dX5_closest_51 (by decide) ?_
        refine lv_iload_n hx hb dX5_closest_52 rfl (lv_at hl 4 rfl) ?_
        refine lv_imul hx hb dX5_closest_53 ?_
        refine lv_iload hx hb dX5_closest_54 (lv_at hl 5 rfl) ?_
        refine lv_iadd hx hb dX5_closest_56 ?_
        refine lv_istore_n (lv' := [(1, .int (((5 : Int32) * v3) + v4)), (2, .int r3), (5, .int r3), (0, .ref (G.1 0)), (3, .int v3), (4, .int v4)]) hx hb dX5_closest_57 rfl hl (by decide) rfl (fun ls hl => ?_)
        exact s_X5_closest_58  C0 hK7 hK17 (((5 : Int32) * v3) + v4) r3 v3 v4 _ _ _ _ hq hH (lv_sub hl [3, 0, 1, 4, 5] rfl)
set_option maxRecDepth 100000 in
set_option maxHeartbeats 4000000 in
theorem s_X5_closest_7 {Q : Int32 → wI → Prop} (C0 : wCx p m c s args meth cX5_closest 6 RX5 (some .int) D cs ad b) : ∀ (f : Nat) (v1 : Int32) (v2 : Int32) (v3 : Int32) (I : wI) (H : Heap) (locs : List Loc) (ls : Array Slot), v_X5_closest_7 Q f v1 v2 v3 I → wH D cs b G I s H locs → lv_has ls 6 [(0, .ref (G.1 0)), (1, .int v1), (2, .int v2), (3, .int v3)] → W p l e rm_X5_closest s m args below meth c H locs 0 0 (MQ below (va_Qi (Q) (wPo D cs b G) (fun q => b ≤ q)) args s 0 0 (fun q => b ≤ q)) (F0 m 7 ls []) := by
  obtain ⟨hX, hr, hlk, hK, hE⟩ := id C0
  have hx := hX.1
  have hb := hX.2.1
  have hown := hX.2.2.2.1
  have hts := hX.2.2.2.2
  intro f
  induction f with
  | zero =>
    intro v1 v2 v3 I H locs ls hq
    exact hq.elim
  | succ f hK7 =>
    intro v1 v2 v3 I H locs ls hq hH hl
    have hq : g_X5_closest_7 Q (v_X5_closest_7 Q f) v1 v2 v3 I := hq
    unfold g_X5_closest_7 at hq
    refine lv_iload_n hx hb dX5_closest_7 rfl (lv_at hl 3 rfl) ?_
    refine lv_iconst (v := 5) hx hb dX5_closest_8 (by decide) ?_
    refine lv_icmp_ge (tgt := 70) hx hb dX5_closest_9 (by decide) (fun hc => ?_) (fun hc => ?_)
    · have hq := hq.1 hc
      refine lv_iload_n hx hb dX5_closest_70 rfl (lv_at hl 1 rfl) ?_
      exact w_eI hX hr hlk hH hq dX5_closest_71
    · have hq := hq.2 hc
      refine lv_iload_n hx hb dX5_closest_12 rfl (lv_at hl 3 rfl) ?_
      refine lv_iconst (v := 1) hx hb dX5_closest_13 (by decide) ?_
      refine lv_iadd hx hb dX5_closest_14 ?_
      refine lv_istore (lv' := [(4, .int (v3 + (1 : Int32))), (0, .ref (G.1 0)), (1, .int v1), (2, .int v2), (3, .int v3)]) hx hb dX5_closest_15 hl (by decide) rfl (fun ls hl => ?_)
      obtain ⟨f, hq⟩ := hq
      exact s_X5_closest_17  C0 hK7 f v1 v2 v3 (v3 + (1 : Int32)) _ _ _ _ hq hH (lv_sub hl [1, 2, 3, 4, 0] rfl)
set_option maxRecDepth 100000 in
set_option maxHeartbeats 4000000 in
theorem c_X5_closest {l : Launch} {D : va_G} {cs : wC4} {ad : Nat → Nat} {b : Nat} {G : wG}  (I : wI) (hp : pre_X5_closest  I) : Met l yX5_closest (ws_ yX5_closest cX5_closest 6 (some .int)) rm_X5_closest (va_Pc [.ref (G.1 0)] (wPr D cs ad b G I)) (va_Qi (fun r I' => post_X5_closest  I r I') (wPo D cs b G) (fun q => b ≤ q)) 0 0 (fun q => b ≤ q) := by
  have hq := vc_X5_closest  I hp
  refine w_met (by decide) (Nat.le_of_ble_eq_true rfl) ?_
  intro p e s m below meth c hX hr hlk hK hE hH ls hl
  have C0 : wCx p m c s _ meth cX5_closest 6 RX5 (some .int) D cs ad b := ⟨hX, hr, hlk, hK, hE⟩
  have hX : CallFix p m c cX5_closest 6 s _ lw_all RX5 := hX
  have hx := hX.1
  have hb := hX.2.1
  have hown := hX.2.2.2.1
  have hts := hX.2.2.2.2
  have hl : lv_has ls 6 [(0, .ref (G.1 0))] := hl
  unfold v_X5_closest at hq
  refine lv_iconst (v := -1) hx hb dX5_closest_0 (by decide) ?_
  refine lv_istore_n (lv' := [(1, .int (-1 : Int32)), (0, .ref (G.1 0))]) hx hb dX5_closest_1 rfl hl (by decide) rfl (fun ls hl => ?_)
  refine lv_bipush (v := 7) hx hb dX5_closest_2 (by decide) ?_
  refine lv_istore_n (lv' := [(2, .int (7 : Int32)), (1, .int (-1 : Int32)), (0, .ref (G.1 0))]) hx hb dX5_closest_4 rfl hl (by decide) rfl (fun ls hl => ?_)
  refine lv_iconst (v := 0) hx hb dX5_closest_5 (by decide) ?_
  refine lv_istore_n (lv' := [(3, .int (0 : Int32)), (2, .int (7 : Int32)), (1, .int (-1 : Int32)), (0, .ref (G.1 0))]) hx hb dX5_closest_6 rfl hl (by decide) rfl (fun ls hl => ?_)
  obtain ⟨f, hq⟩ := hq
  exact s_X5_closest_7  C0  f (-1 : Int32) (7 : Int32) (0 : Int32) _ _ _ _ hq hH (lv_sub hl [3, 2, 1, 0] rfl)
abbrev rm_X5_openShare : Room := { frames := 2, cells := 0, slots := 0, locals := 44 }
theorem hd_X5_openShare : yX5_openShare.cls = RX5 ∧ yX5_openShare.cls ≠ "java/lang/invoke/MethodHandle" ∧ yX5_openShare.cls ≠ "java/lang/invoke/VarHandle" ∧ (parseMethodDescriptor yX5_openShare.desc).map (fun d => d.parameters.length) = some 0 := by decide +kernel
set_option maxRecDepth 100000 in
set_option maxHeartbeats 4000000 in
theorem c_X5_openShare {l : Launch} {D : va_G} {cs : wC4} {ad : Nat → Nat} {b : Nat} {G : wG}  (I : wI) (hp : pre_X5_openShare  I) : Met l yX5_openShare (ws_ yX5_openShare cX5_openShare 1 (some .double)) rm_X5_openShare (va_Pc [.ref (G.1 0)] (wPr D cs ad b G I)) (va_Qd (fun r I' => I' = I ∧ post_X5_openShare  I r) (wPo D cs b G) (fun q => b ≤ q)) 0 0 (fun q => b ≤ q) := by
  have hq := vc_X5_openShare  I hp
  refine w_met (by decide) (Nat.le_of_ble_eq_true rfl) ?_
  intro p e s m below meth c hX hr hlk hK hE hH ls hl
  have C0 : wCx p m c s _ meth cX5_openShare 1 RX5 (some .double) D cs ad b := ⟨hX, hr, hlk, hK, hE⟩
  have hX : CallFix p m c cX5_openShare 1 s _ lw_all RX5 := hX
  have hx := hX.1
  have hb := hX.2.1
  have hown := hX.2.2.2.1
  have hts := hX.2.2.2.2
  have hl : lv_has ls 1 [(0, .ref (G.1 0))] := hl
  unfold v_X5_openShare at hq
  refine lv_aload_n hx hb dX5_openShare_0 rfl (lv_at hl 0 rfl) ?_
  refine w_getr hX hK hH ck5 sh0 0 1 1 fr5_0 rfl q1_172 dX5_openShare_1 ?_
  refine lv_aload_n hx hb dX5_openShare_4 rfl (lv_at hl 0 rfl) ?_
  refine w_getr hX hK hH ck5 sh0 0 1 1 fr5_0 rfl q1_172 dX5_openShare_5 ?_
  refine w_getrN hX hK hE hH ck3 (sf5_0 sh0) 0 1 2 fr3_0 rfl qn1_58 dX5_openShare_8 ?_
  obtain ⟨hp, hq⟩ := hq
  refine w_cIp hH (w_rV (As := [.ref (G.1 2)]) (rest := []) hX hK hE hH (c_X3_asInSecret (sf5_0 sh0) (sf3_0 (sf5_0 sh0))  _ hp) ck3 (sf5_0 sh0) q3_16 q3_9 q3_10 q1_2 q3_11 hd_X3_asInSecret ⟨Nat.le_of_ble_eq_true rfl, Nat.le_of_ble_eq_true rfl⟩ ⟨rfl, rfl⟩ rfl hl.1 rfl (Nat.le_of_ble_eq_true rfl) dX5_openShare_11 ⟨Nat.zero_le _, Nat.zero_le _⟩) (fun r1  H locs hpo hH => ?_)
  have hq := hq r1  hpo
  refine lv_i2d hx hb dX5_openShare_14 ?_
  refine lv_ldc2d hx hb hown (hts _ q3_110) dX5_openShare_15 ?_
  obtain ⟨hc, hq⟩ := hq
  refine lv_ddiv hx hb dX5_openShare_18 hc ?_
  exact w_eD hX hr hlk hH ⟨rfl, hq⟩ dX5_openShare_19
abbrev rm_X5_meanNotch : Room := { frames := 1, cells := 0, slots := 0, locals := 22 }
theorem hd_X5_meanNotch : yX5_meanNotch.cls = RX5 ∧ yX5_meanNotch.cls ≠ "java/lang/invoke/MethodHandle" ∧ yX5_meanNotch.cls ≠ "java/lang/invoke/VarHandle" ∧ (parseMethodDescriptor yX5_meanNotch.desc).map (fun d => d.parameters.length) = some 0 := by decide +kernel
set_option maxRecDepth 100000 in
set_option maxHeartbeats 4000000 in
theorem c_X5_meanNotch {l : Launch} {D : va_G} {cs : wC4} {ad : Nat → Nat} {b : Nat} {G : wG}  (I : wI) (hp : pre_X5_meanNotch  I) : Met l yX5_meanNotch (ws_ yX5_meanNotch cX5_meanNotch 1 (some .float)) rm_X5_meanNotch (va_Pc [.ref (G.1 0)] (wPr D cs ad b G I)) (va_Qf (fun r I' => I' = I ∧ post_X5_meanNotch  I r) (wPo D cs b G) (fun q => b ≤ q)) 0 0 (fun q => b ≤ q) := by
  have hq := vc_X5_meanNotch  I hp
  refine w_met (by decide) (Nat.le_of_ble_eq_true rfl) ?_
  intro p e s m below meth c hX hr hlk hK hE hH ls hl
  have C0 : wCx p m c s _ meth cX5_meanNotch 1 RX5 (some .float) D cs ad b := ⟨hX, hr, hlk, hK, hE⟩
  have hX : CallFix p m c cX5_meanNotch 1 s _ lw_all RX5 := hX
  have hx := hX.1
  have hb := hX.2.1
  have hown := hX.2.2.2.1
  have hts := hX.2.2.2.2
  have hl : lv_has ls 1 [(0, .ref (G.1 0))] := hl
  unfold v_X5_meanNotch at hq
  refine lv_aload_n hx hb dX5_meanNotch_0 rfl (lv_at hl 0 rfl) ?_
  refine w_getr hX hK hH ck5 sh0 0 1 1 fr5_0 rfl q1_172 dX5_meanNotch_1 ?_
  refine w_getrN hX hK hE hH ck3 (sf5_0 sh0) 0 1 2 fr3_0 rfl qn1_58 dX5_meanNotch_4 ?_
  obtain ⟨hp, hq⟩ := hq
  refine w_cIp hH (w_rV (As := []) (rest := []) hX hK hE hH (c_X0_notchSum (sf3_0 (sf5_0 sh0))  _ hp) ck0 (sf3_0 (sf5_0 sh0)) q3_0 q3_1 q3_2 q1_3 q3_3 hd_X0_notchSum ⟨Nat.le_of_ble_eq_true rfl, Nat.le_of_ble_eq_true rfl⟩ ⟨rfl, rfl⟩ rfl hl.1 rfl (Nat.le_of_ble_eq_true rfl) dX5_meanNotch_7 ⟨Nat.zero_le _, Nat.zero_le _⟩) (fun r1  H locs hpo hH => ?_)
  have hq := hq r1  hpo
  refine lv_i2f hx hb dX5_meanNotch_10 ?_
  refine w_ldcfw hx hb hown (hts _ q3_116) dX5_meanNotch_11 ?_
  obtain ⟨hc, hq⟩ := hq
  refine lv_fdiv hx hb dX5_meanNotch_14 hc ?_
  exact w_eF hX hr hlk hH ⟨rfl, hq⟩ dX5_meanNotch_15
end
