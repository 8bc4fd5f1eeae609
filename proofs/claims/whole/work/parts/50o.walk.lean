section
variable {p : Program} {l : Launch} {e : Env} {s : State} {m : MethodId} {args : Array Value} {below : List Frame} {meth : Method} {c : Code} {D : va_G} {cs : wC4} {ad : Nat → Nat} {b : Nat} {G : wG}
abbrev rm_X6_ifTurned : Room := { frames := 4, cells := 0, slots := 0, locals := 95 }
theorem hd_X6_ifTurned : yX6_ifTurned.cls = RX6 ∧ yX6_ifTurned.cls ≠ "java/lang/invoke/MethodHandle" ∧ yX6_ifTurned.cls ≠ "java/lang/invoke/VarHandle" ∧ (parseMethodDescriptor yX6_ifTurned.desc).map (fun d => d.parameters.length) = some 2 := by decide +kernel
set_option maxRecDepth 100000 in
set_option maxHeartbeats 4000000 in
theorem s_X6_ifTurned_46 {x1 : Int32} {x2 : Int32} {Q : Int32 → wI → Prop} (C0 : wCx p m c s args meth cX6_ifTurned 3 RX6 (some .int) D cs ad b) : ∀ (t0 : Int32) (I : wI) (H : Heap) (locs : List Loc) (ls : Array Slot), v_X6_ifTurned_46 x1 x2 Q t0 I → wH D cs b G I s H locs → lv_has ls 3 [] → W p l e rm_X6_ifTurned s m args below meth c H locs 0 0 (MQ below (va_Qi (Q) (wPo D cs b G) (fun q => b ≤ q)) args s 0 0 (fun q => b ≤ q)) (F0 m 46 ls [.int t0]) := by
  obtain ⟨hX, hr, hlk, hK, hE⟩ := id C0
  have hx := hX.1
  have hb := hX.2.1
  have hown := hX.2.2.2.1
  have hts := hX.2.2.2.2
  intro t0 I H locs ls hq hH hl
  unfold v_X6_ifTurned_46 at hq
  exact w_eI hX hr hlk hH hq dX6_ifTurned_46
set_option maxRecDepth 100000 in
set_option maxHeartbeats 4000000 in
theorem s_X6_ifTurned_26 {x1 : Int32} {x2 : Int32} {Q : Int32 → wI → Prop} (C0 : wCx p m c s args meth cX6_ifTurned 3 RX6 (some .int) D cs ad b) : ∀ (t0 : Int32) (I : wI) (H : Heap) (locs : List Loc) (ls : Array Slot), v_X6_ifTurned_26 x1 x2 Q t0 I → wH D cs b G I s H locs → lv_has ls 3 [(0, .ref (b + 111)), (1, .int x1), (2, .int x2)] → W p l e rm_X6_ifTurned s m args below meth c H locs 0 0 (MQ below (va_Qi (Q) (wPo D cs b G) (fun q => b ≤ q)) args s 0 0 (fun q => b ≤ q)) (F0 m 26 ls [.int t0, .ref (b + 111)]) := by
  obtain ⟨hX, hr, hlk, hK, hE⟩ := id C0
  have hx := hX.1
  have hb := hX.2.1
  have hown := hX.2.2.2.1
  have hts := hX.2.2.2.2
  intro t0 I H locs ls hq hH hl
  unfold v_X6_ifTurned_26 at hq
  refine w_puti hX hK hH ck6 sh111 0 fw6_0 q4_73 dX6_ifTurned_26 (fun I1 H locs hI hH => ?_)
  have hq := hq I1 hI
  refine lv_aload_n hx hb dX6_ifTurned_29 rfl (lv_at hl 0 rfl) ?_
  refine w_geti hX hK hH ck6 sh111 0 fi6_0 q4_73 dX6_ifTurned_30 ?_
  refine lv_if_le (tgt := 40) hx hb dX6_ifTurned_33 (by decide) (fun hc => ?_) (fun hc => ?_)
  · have hq := hq.1 hc
    refine lv_aload_n hx hb dX6_ifTurned_40 rfl (lv_at hl 0 rfl) ?_
    refine lv_iload_n hx hb dX6_ifTurned_41 rfl (lv_at hl 1 rfl) ?_
    refine lv_iload_n hx hb dX6_ifTurned_42 rfl (lv_at hl 2 rfl) ?_
    obtain ⟨hp, hq⟩ := hq
    refine w_cI hH (w_rV (As := [.int x1, .int x2]) (rest := []) hX hK hE hH (c_X6_rightIf  _ _ _ hp) ck6 sh111 q5_139 q5_141 qs64 q1_7 q5_142 hd_X6_rightIf ⟨Nat.le_of_ble_eq_true rfl, Nat.le_of_ble_eq_true rfl⟩ ⟨rfl, rfl⟩ rfl hl.1 rfl (Nat.le_of_ble_eq_true rfl) dX6_ifTurned_43 ⟨Nat.zero_le _, Nat.zero_le _⟩) (fun r2 I3 H locs hpo hH => ?_)
    have hq := hq r2 I3 hpo
    exact s_X6_ifTurned_46  C0  r2 _ _ _ _ hq hH (lv_sub hl [] rfl)
  · have hq := hq.2 hc
    refine lv_iconst (v := 0) hx hb dX6_ifTurned_36 (by decide) ?_
    refine lv_goto (tgt := 46) hx hb dX6_ifTurned_37 (by decide) ?_
    exact s_X6_ifTurned_46  C0  (0 : Int32) _ _ _ _ hq hH (lv_sub hl [] rfl)
set_option maxRecDepth 100000 in
set_option maxHeartbeats 4000000 in
theorem c_X6_ifTurned {l : Launch} {D : va_G} {cs : wC4} {ad : Nat → Nat} {b : Nat} {G : wG} (x1 : Int32) (x2 : Int32) (I : wI) (hp : pre_X6_ifTurned x1 x2 I) : Met l yX6_ifTurned (ws_ yX6_ifTurned cX6_ifTurned 3 (some .int)) rm_X6_ifTurned (va_Pc [.ref (b + 111), .int x1, .int x2] (wPr D cs ad b G I)) (va_Qi (fun r I' => post_X6_ifTurned x1 x2 I r I') (wPo D cs b G) (fun q => b ≤ q)) 0 0 (fun q => b ≤ q) := by
  have hq := vc_X6_ifTurned x1 x2 I hp
  refine w_met (by decide) (Nat.le_of_ble_eq_true rfl) ?_
  intro p e s m below meth c hX hr hlk hK hE hH ls hl
  have C0 : wCx p m c s _ meth cX6_ifTurned 3 RX6 (some .int) D cs ad b := ⟨hX, hr, hlk, hK, hE⟩
  have hX : CallFix p m c cX6_ifTurned 3 s _ lw_all RX6 := hX
  have hx := hX.1
  have hb := hX.2.1
  have hown := hX.2.2.2.1
  have hts := hX.2.2.2.2
  have hl : lv_has ls 3 [(0, .ref (b + 111)), (1, .int x1), (2, .int x2)] := hl
  unfold v_X6_ifTurned at hq
  refine lv_aload_n hx hb dX6_ifTurned_0 rfl (lv_at hl 0 rfl) ?_
  refine lv_iload_n hx hb dX6_ifTurned_1 rfl (lv_at hl 1 rfl) ?_
  obtain ⟨hp, hq⟩ := hq
  refine w_cIp hH (w_rS (As := [.int x1]) (rest := [.ref (b + 111)]) hX hK hE hH (c_X6_isKey  _ _ hp) q4_165 q4_166 q1_7 q4_167 hd_X6_isKey.2 ⟨Nat.le_of_ble_eq_true rfl, Nat.le_of_ble_eq_true rfl⟩ ⟨rfl, rfl⟩ rfl hl.1 rfl (Nat.le_of_ble_eq_true rfl) dX6_ifTurned_2 ⟨Nat.zero_le _, Nat.zero_le _⟩) (fun r1  H locs hpo hH => ?_)
  have hq := hq r1  hpo
  refine lv_if_ne (tgt := 12) hx hb dX6_ifTurned_5 (by decide) (fun hc => ?_) (fun hc => ?_)
  · have hq := hq.1 hc
    refine lv_iload_n hx hb dX6_ifTurned_12 rfl (lv_at hl 2 rfl) ?_
    refine lv_iconst (v := 0) hx hb dX6_ifTurned_13 (by decide) ?_
    refine lv_iconst (v := 1) hx hb dX6_ifTurned_14 (by decide) ?_
    obtain ⟨hp, hq⟩ := hq
    refine w_cIp hH (w_rS (As := [.int x2, .int (0 : Int32), .int (1 : Int32)]) (rest := [.ref (b + 111)]) hX hK hE hH (c_X6_in  _ _ _ _ hp) q4_168 q4_169 q1_7 q4_170 hd_X6_in.2 ⟨Nat.le_of_ble_eq_true rfl, Nat.le_of_ble_eq_true rfl⟩ ⟨rfl, rfl⟩ rfl hl.1 rfl (Nat.le_of_ble_eq_true rfl) dX6_ifTurned_15 ⟨Nat.zero_le _, Nat.zero_le _⟩) (fun r2  H locs hpo hH => ?_)
    have hq := hq r2  hpo
    refine lv_if_eq (tgt := 25) hx hb dX6_ifTurned_18 (by decide) (fun hc => ?_) (fun hc => ?_)
    · have hq := hq.1 hc
      refine lv_iconst (v := 2) hx hb dX6_ifTurned_25 (by decide) ?_
      exact s_X6_ifTurned_26  C0  (2 : Int32) _ _ _ _ hq hH (lv_sub hl [0, 1, 2] rfl)
    · have hq := hq.2 hc
      refine lv_iconst (v := 0) hx hb dX6_ifTurned_21 (by decide) ?_
      refine lv_goto (tgt := 26) hx hb dX6_ifTurned_22 (by decide) ?_
      exact s_X6_ifTurned_26  C0  (0 : Int32) _ _ _ _ hq hH (lv_sub hl [0, 1, 2] rfl)
  · have hq := hq.2 hc
    refine lv_iconst (v := 1) hx hb dX6_ifTurned_8 (by decide) ?_
    refine lv_goto (tgt := 26) hx hb dX6_ifTurned_9 (by decide) ?_
    exact s_X6_ifTurned_26  C0  (1 : Int32) _ _ _ _ hq hH (lv_sub hl [0, 1, 2] rfl)
abbrev rm_X6_findClosest : Room := { frames := 4, cells := 0, slots := 0, locals := 97 }
theorem hd_X6_findClosest : yX6_findClosest.cls = RX6 ∧ yX6_findClosest.cls ≠ "java/lang/invoke/MethodHandle" ∧ yX6_findClosest.cls ≠ "java/lang/invoke/VarHandle" ∧ (parseMethodDescriptor yX6_findClosest.desc).map (fun d => d.parameters.length) = some 0 := by decide +kernel
set_option maxRecDepth 100000 in
set_option maxHeartbeats 4000000 in
theorem s_X6_findClosest_49 {Q : Int32 → wI → Prop} {K7 : Int32 → Int32 → Int32 → wI → Prop} {K17 : Int32 → Int32 → Int32 → Int32 → wI → Prop} (C0 : wCx p m c s args meth cX6_findClosest 6 RX6 (some .int) D cs ad b) (hK7 : ∀ (v1 : Int32) (v2 : Int32) (v3 : Int32) (I : wI) (H : Heap) (locs : List Loc) (ls : Array Slot), K7 v1 v2 v3 I → wH D cs b G I s H locs → lv_has ls 6 [(0, .ref (b + 111)), (1, .int v1), (2, .int v2), (3, .int v3)] → W p l e rm_X6_findClosest s m args below meth c H locs 0 0 (MQ below (va_Qi (Q) (wPo D cs b G) (fun q => b ≤ q)) args s 0 0 (fun q => b ≤ q)) (F0 m 7 ls [])) (hK17 : ∀ (v1 : Int32) (v2 : Int32) (v3 : Int32) (v4 : Int32) (I : wI) (H : Heap) (locs : List Loc) (ls : Array Slot), K17 v1 v2 v3 v4 I → wH D cs b G I s H locs → lv_has ls 6 [(0, .ref (b + 111)), (1, .int v1), (2, .int v2), (3, .int v3), (4, .int v4)] → W p l e rm_X6_findClosest s m args below meth c H locs 0 0 (MQ below (va_Qi (Q) (wPo D cs b G) (fun q => b ≤ q)) args s 0 0 (fun q => b ≤ q)) (F0 m 17 ls [])) : ∀ (v1 : Int32) (v2 : Int32) (v3 : Int32) (v4 : Int32) (I : wI) (H : Heap) (locs : List Loc) (ls : Array Slot), v_X6_findClosest_49 Q K7 K17 v1 v2 v3 v4 I → wH D cs b G I s H locs → lv_has ls 6 [(0, .ref (b + 111)), (1, .int v1), (2, .int v2), (3, .int v3), (4, .int v4)] → W p l e rm_X6_findClosest s m args below meth c H locs 0 0 (MQ below (va_Qi (Q) (wPo D cs b G) (fun q => b ≤ q)) args s 0 0 (fun q => b ≤ q)) (F0 m 49 ls []) := by
  obtain ⟨hX, hr, hlk, hK, hE⟩ := id C0
  have hx := hX.1
  have hb := hX.2.1
  have hown := hX.2.2.2.1
  have hts := hX.2.2.2.2
  intro v1 v2 v3 v4 I H locs ls hq hH hl
  unfold v_X6_findClosest_49 at hq
  refine lv_iinc (v := (v4 + (1 : Int32))) (lv' := [(4, .int (v4 + (1 : Int32))), (0, .ref (b + 111)), (1, .int v1), (2, .int v2), (3, .int v3)]) hx hb dX6_findClosest_49 hl (k := 4) rfl rfl (by decide) rfl (fun ls hl => ?_)
  refine lv_goto (tgt := 17) hx hb dX6_findClosest_52 (by decide) ?_
  exact hK17 v1 v2 v3 (v4 + (1 : Int32)) _ _ _ _ hq hH (lv_sub hl [1, 2, 3, 4, 0] rfl)
set_option maxRecDepth 100000 in
set_option maxHeartbeats 4000000 in
theorem s_X6_findClosest_17 {Q : Int32 → wI → Prop} {K7 : Int32 → Int32 → Int32 → wI → Prop} (C0 : wCx p m c s args meth cX6_findClosest 6 RX6 (some .int) D cs ad b) (hK7 : ∀ (v1 : Int32) (v2 : Int32) (v3 : Int32) (I : wI) (H : Heap) (locs : List Loc) (ls : Array Slot), K7 v1 v2 v3 I → wH D cs b G I s H locs → lv_has ls 6 [(0, .ref (b + 111)), (1, .int v1), (2, .int v2), (3, .int v3)] → W p l e rm_X6_findClosest s m args below meth c H locs 0 0 (MQ below (va_Qi (Q) (wPo D cs b G) (fun q => b ≤ q)) args s 0 0 (fun q => b ≤ q)) (F0 m 7 ls [])) : ∀ (f : Nat) (v1 : Int32) (v2 : Int32) (v3 : Int32) (v4 : Int32) (I : wI) (H : Heap) (locs : List Loc) (ls : Array Slot), v_X6_findClosest_17 Q K7 f v1 v2 v3 v4 I → wH D cs b G I s H locs → lv_has ls 6 [(0, .ref (b + 111)), (1, .int v1), (2, .int v2), (3, .int v3), (4, .int v4)] → W p l e rm_X6_findClosest s m args below meth c H locs 0 0 (MQ below (va_Qi (Q) (wPo D cs b G) (fun q => b ≤ q)) args s 0 0 (fun q => b ≤ q)) (F0 m 17 ls []) := by
  obtain ⟨hX, hr, hlk, hK, hE⟩ := id C0
  have hx := hX.1
  have hb := hX.2.1
  have hown := hX.2.2.2.1
  have hts := hX.2.2.2.2
  intro f
  induction f with
  | zero =>
    intro v1 v2 v3 v4 I H locs ls hq
    exact hq.elim
  | succ f hK17 =>
    intro v1 v2 v3 v4 I H locs ls hq hH hl
    have hq : g_X6_findClosest_17 Q K7 (v_X6_findClosest_17 Q K7 f) v1 v2 v3 v4 I := hq
    unfold g_X6_findClosest_17 at hq
    refine lv_iload hx hb dX6_findClosest_17 (lv_at hl 4 rfl) ?_
    refine lv_iconst (v := 5) hx hb dX6_findClosest_19 (by decide) ?_
    refine lv_icmp_ge (tgt := 55) hx hb dX6_findClosest_20 (by decide) (fun hc => ?_) (fun hc => ?_)
    · have hq := hq.1 hc
      refine lv_iinc (v := (v3 + (1 : Int32))) (lv' := [(3, .int (v3 + (1 : Int32))), (0, .ref (b + 111)), (1, .int v1), (2, .int v2), (4, .int v4)]) hx hb dX6_findClosest_55 hl (k := 3) rfl rfl (by decide) rfl (fun ls hl => ?_)
      refine lv_goto (tgt := 7) hx hb dX6_findClosest_58 (by decide) ?_
      exact hK7 v1 v2 (v3 + (1 : Int32)) _ _ _ _ hq hH (lv_sub hl [1, 2, 3, 0] rfl)
    · have hq := hq.2 hc
      refine lv_aload_n hx hb dX6_findClosest_23 rfl (lv_at hl 0 rfl) ?_
      refine lv_iload_n hx hb dX6_findClosest_24 rfl (lv_at hl 3 rfl) ?_
      refine lv_iload hx hb dX6_findClosest_25 (lv_at hl 4 rfl) ?_
      refine lv_iconst (v := 1) hx hb dX6_findClosest_27 (by decide) ?_
      obtain ⟨hp, hq⟩ := hq
      refine w_cI hH (w_rV (As := [.int v3, .int v4, .int (1 : Int32)]) (rest := []) hX hK hE hH (c_X6_pairNow  _ _ _ _ hp) ck6 sh111 q5_88 q5_90 qs56 q1_7 q5_91 hd_X6_pairNow ⟨Nat.le_of_ble_eq_true rfl, Nat.le_of_ble_eq_true rfl⟩ ⟨rfl, rfl⟩ rfl hl.1 rfl (Nat.le_of_ble_eq_true rfl) dX6_findClosest_28 ⟨Nat.zero_le _, Nat.zero_le _⟩) (fun r1 I2 H locs hpo hH => ?_)
      have hq := hq r1 I2 hpo
      refine lv_istore (lv' := [(5, .int r1), (0, .ref (b + 111)), (1, .int v1), (2, .int v2), (3, .int v3), (4, .int v4)]) hx hb dX6_findClosest_31 hl (by decide) rfl (fun ls hl => ?_)
      refine lv_iload hx hb dX6_findClosest_33 (lv_at hl 0 rfl) ?_
      refine lv_iload_n hx hb dX6_findClosest_35 rfl (lv_at hl 3 rfl) ?_
      refine lv_icmp_ge (tgt := 49) hx hb dX6_findClosest_36 (by decide) (fun hc => ?_) (fun hc => ?_)
      · have hq := hq.1 hc
        exact s_X6_findClosest_49  C0 hK7 hK17 v1 v2 v3 v4 _ _ _ _ hq hH (lv_sub hl [1, 2, 3, 4, 5] rfl)
      · have hq := hq.2 hc
        refine lv_iconst (v := 5) hx hb dX6_findClosest_39 (by decide) ?_
        refine lv_iload_n hx hb dX6_findClosest_40 rfl (lv_at hl 4 rfl) ?_
        refine lv_imul hx hb dX6_findClosest_41 ?_
        refine lv_iload hx hb dX6_findClosest_42 (lv_at hl 5 rfl) ?_
        refine lv_iadd hx hb dX6_findClosest_44 ?_
        refine lv_istore_n (lv' := [(1, .int (((5 : Int32) * v3) + v4)), (5, .int r1), (0, .ref (b + 111)), (2, .int v2), (3, .int v3), (4, .int v4)]) hx hb dX6_findClosest_45 rfl hl (by decide) rfl (fun ls hl => ?_)
        refine lv_iload hx hb dX6_findClosest_46 (lv_at hl 1 rfl) ?_
        refine lv_istore_n (lv' := [(2, .int r1), (1, .int (((5 : Int32) * v3) + v4)), (5, .int r1), (0, .ref (b + 111)), (3, .int v3), (4, .int v4)]) hx hb dX6_findClosest_48 rfl hl (by decide) rfl (fun ls hl => ?_)
        exact s_X6_findClosest_49  C0 hK7 hK17 (((5 : Int32) * v3) + v4) r1 v3 v4 _ _ _ _ hq hH (lv_sub hl [3, 1, 0, 4, 5] rfl)
set_option maxRecDepth 100000 in
set_option maxHeartbeats 4000000 in
theorem s_X6_findClosest_7 {Q : Int32 → wI → Prop} (C0 : wCx p m c s args meth cX6_findClosest 6 RX6 (some .int) D cs ad b) : ∀ (f : Nat) (v1 : Int32) (v2 : Int32) (v3 : Int32) (I : wI) (H : Heap) (locs : List Loc) (ls : Array Slot), v_X6_findClosest_7 Q f v1 v2 v3 I → wH D cs b G I s H locs → lv_has ls 6 [(0, .ref (b + 111)), (1, .int v1), (2, .int v2), (3, .int v3)] → W p l e rm_X6_findClosest s m args below meth c H locs 0 0 (MQ below (va_Qi (Q) (wPo D cs b G) (fun q => b ≤ q)) args s 0 0 (fun q => b ≤ q)) (F0 m 7 ls []) := by
  obtain ⟨hX, hr, hlk, hK, hE⟩ := id C0
  have hx := hX.1
  have hb := hX.2.1
  have hown := hX.2.2.2.1
  have hts := hX.2.2.2.2
  intro f
  induction f with
  | zero =>
    intro v1 v2 v3 I H locs ls hq
    exact hq.elim
  | succ f hK7 =>
    intro v1 v2 v3 I H locs ls hq hH hl
    have hq : g_X6_findClosest_7 Q (v_X6_findClosest_7 Q f) v1 v2 v3 I := hq
    unfold g_X6_findClosest_7 at hq
    refine lv_iload_n hx hb dX6_findClosest_7 rfl (lv_at hl 3 rfl) ?_
    refine lv_iconst (v := 5) hx hb dX6_findClosest_8 (by decide) ?_
    refine lv_icmp_ge (tgt := 61) hx hb dX6_findClosest_9 (by decide) (fun hc => ?_) (fun hc => ?_)
    · have hq := hq.1 hc
      refine lv_iload_n hx hb dX6_findClosest_61 rfl (lv_at hl 1 rfl) ?_
      exact w_eI hX hr hlk hH hq dX6_findClosest_62
    · have hq := hq.2 hc
      refine lv_iload_n hx hb dX6_findClosest_12 rfl (lv_at hl 3 rfl) ?_
      refine lv_iconst (v := 1) hx hb dX6_findClosest_13 (by decide) ?_
      refine lv_iadd hx hb dX6_findClosest_14 ?_
      refine lv_istore (lv' := [(4, .int (v3 + (1 : Int32))), (0, .ref (b + 111)), (1, .int v1), (2, .int v2), (3, .int v3)]) hx hb dX6_findClosest_15 hl (by decide) rfl (fun ls hl => ?_)
      obtain ⟨f, hq⟩ := hq
      exact s_X6_findClosest_17  C0 hK7 f v1 v2 v3 (v3 + (1 : Int32)) _ _ _ _ hq hH (lv_sub hl [1, 2, 3, 4, 0] rfl)
set_option maxRecDepth 100000 in
set_option maxHeartbeats 4000000 in
theorem c_X6_findClosest {l : Launch} {D : va_G} {cs : wC4} {ad : Nat → Nat} {b : Nat} {G : wG}  (I : wI) (hp : pre_X6_findClosest  I) : Met l yX6_findClosest (ws_ yX6_findClosest cX6_findClosest 6 (some .int)) rm_X6_findClosest (va_Pc [.ref (b + 111)] (wPr D cs ad b G I)) (va_Qi (fun r I' => post_X6_findClosest  I r I') (wPo D cs b G) (fun q => b ≤ q)) 0 0 (fun q => b ≤ q) := by
  have hq := vc_X6_findClosest  I hp
  refine w_met (by decide) (Nat.le_of_ble_eq_true rfl) ?_
  intro p e s m below meth c hX hr hlk hK hE hH ls hl
  have C0 : wCx p m c s _ meth cX6_findClosest 6 RX6 (some .int) D cs ad b := ⟨hX, hr, hlk, hK, hE⟩
  have hX : CallFix p m c cX6_findClosest 6 s _ lw_all RX6 := hX
  have hx := hX.1
  have hb := hX.2.1
  have hown := hX.2.2.2.1
  have hts := hX.2.2.2.2
  have hl : lv_has ls 6 [(0, .ref (b + 111))] := hl
  unfold v_X6_findClosest at hq
  refine lv_iconst (v := -1) hx hb dX6_findClosest_0 (by decide) ?_
  refine lv_istore_n (lv' := [(1, .int (-1 : Int32)), (0, .ref (b + 111))]) hx hb dX6_findClosest_1 rfl hl (by decide) rfl (fun ls hl => ?_)
  refine lv_bipush (v := 7) hx hb dX6_findClosest_2 (by decide) ?_
  refine lv_istore_n (lv' := [(2, .int (7 : Int32)), (1, .int (-1 : Int32)), (0, .ref (b + 111))]) hx hb dX6_findClosest_4 rfl hl (by decide) rfl (fun ls hl => ?_)
  refine lv_iconst (v := 0) hx hb dX6_findClosest_5 (by decide) ?_
  refine lv_istore_n (lv' := [(3, .int (0 : Int32)), (2, .int (7 : Int32)), (1, .int (-1 : Int32)), (0, .ref (b + 111))]) hx hb dX6_findClosest_6 rfl hl (by decide) rfl (fun ls hl => ?_)
  obtain ⟨f, hq⟩ := hq
  exact s_X6_findClosest_7  C0  f (-1 : Int32) (7 : Int32) (0 : Int32) _ _ _ _ hq hH (lv_sub hl [3, 2, 1, 0] rfl)
abbrev rm_X6_closest : Room := { frames := 5, cells := 0, slots := 0, locals := 122 }
theorem hd_X6_closest : yX6_closest.cls = RX6 ∧ yX6_closest.cls ≠ "java/lang/invoke/MethodHandle" ∧ yX6_closest.cls ≠ "java/lang/invoke/VarHandle" ∧ (parseMethodDescriptor yX6_closest.desc).map (fun d => d.parameters.length) = some 0 := by decide +kernel
set_option maxRecDepth 100000 in
set_option maxHeartbeats 4000000 in
theorem c_X6_closest {l : Launch} {D : va_G} {cs : wC4} {ad : Nat → Nat} {b : Nat} {G : wG}  (I : wI) (hp : pre_X6_closest  I) : Met l yX6_closest (ws_ yX6_closest cX6_closest 1 (some .int)) rm_X6_closest (va_Pc [.ref (b + 111)] (wPr D cs ad b G I)) (va_Qi (fun r I' => post_X6_closest  I r I') (wPo D cs b G) (fun q => b ≤ q)) 0 0 (fun q => b ≤ q) := by
  have hq := vc_X6_closest  I hp
  refine w_met (by decide) (Nat.le_of_ble_eq_true rfl) ?_
  intro p e s m below meth c hX hr hlk hK hE hH ls hl
  have C0 : wCx p m c s _ meth cX6_closest 1 RX6 (some .int) D cs ad b := ⟨hX, hr, hlk, hK, hE⟩
  have hX : CallFix p m c cX6_closest 1 s _ lw_all RX6 := hX
  have hx := hX.1
  have hb := hX.2.1
  have hown := hX.2.2.2.1
  have hts := hX.2.2.2.2
  have hl : lv_has ls 1 [(0, .ref (b + 111))] := hl
  unfold v_X6_closest at hq
  refine lv_aload_n hx hb dX6_closest_0 rfl (lv_at hl 0 rfl) ?_
  refine lv_iconst (v := 0) hx hb dX6_closest_1 (by decide) ?_
  refine w_puti hX hK hH ck6 sh111 0 fw6_0 q4_73 dX6_closest_2 (fun I1 H locs hI hH => ?_)
  have hq := hq I1 hI
  refine lv_aload_n hx hb dX6_closest_5 rfl (lv_at hl 0 rfl) ?_
  obtain ⟨hp, hq⟩ := hq
  refine w_cI hH (w_rV (As := []) (rest := []) hX hK hE hH (c_X6_findClosest   _ hp) ck6 sh111 q5_147 q5_149 qs65 q1_7 q5_150 hd_X6_findClosest ⟨Nat.le_of_ble_eq_true rfl, Nat.le_of_ble_eq_true rfl⟩ ⟨rfl, rfl⟩ rfl hl.1 rfl (Nat.le_of_ble_eq_true rfl) dX6_closest_6 ⟨Nat.zero_le _, Nat.zero_le _⟩) (fun r2 I3 H locs hpo hH => ?_)
  have hq := hq r2 I3 hpo
  exact w_eI hX hr hlk hH hq dX6_closest_9
abbrev rm_X6_openShare : Room := { frames := 2, cells := 0, slots := 0, locals := 43 }
theorem hd_X6_openShare : yX6_openShare.cls = RX6 ∧ yX6_openShare.cls ≠ "java/lang/invoke/MethodHandle" ∧ yX6_openShare.cls ≠ "java/lang/invoke/VarHandle" ∧ (parseMethodDescriptor yX6_openShare.desc).map (fun d => d.parameters.length) = some 0 := by decide +kernel
set_option maxRecDepth 100000 in
set_option maxHeartbeats 4000000 in
theorem c_X6_openShare {l : Launch} {D : va_G} {cs : wC4} {ad : Nat → Nat} {b : Nat} {G : wG}  (I : wI) (hp : pre_X6_openShare  I) : Met l yX6_openShare (ws_ yX6_openShare cX6_openShare 1 (some .double)) rm_X6_openShare (va_Pc [.ref (b + 111)] (wPr D cs ad b G I)) (va_Qd (fun r I' => post_X6_openShare  I r I') (wPo D cs b G) (fun q => b ≤ q)) 0 0 (fun q => b ≤ q) := by
  have hq := vc_X6_openShare  I hp
  refine w_met (by decide) (Nat.le_of_ble_eq_true rfl) ?_
  intro p e s m below meth c hX hr hlk hK hE hH ls hl
  have C0 : wCx p m c s _ meth cX6_openShare 1 RX6 (some .double) D cs ad b := ⟨hX, hr, hlk, hK, hE⟩
  have hX : CallFix p m c cX6_openShare 1 s _ lw_all RX6 := hX
  have hx := hX.1
  have hb := hX.2.1
  have hown := hX.2.2.2.1
  have hts := hX.2.2.2.2
  have hl : lv_has ls 1 [(0, .ref (b + 111))] := hl
  unfold v_X6_openShare at hq
  refine lv_aload_n hx hb dX6_openShare_0 rfl (lv_at hl 0 rfl) ?_
  refine lv_iconst (v := 0) hx hb dX6_openShare_1 (by decide) ?_
  refine w_puti hX hK hH ck6 sh111 0 fw6_0 q4_73 dX6_openShare_2 (fun I1 H locs hI hH => ?_)
  have hq := hq I1 hI
  refine lv_aload_n hx hb dX6_openShare_5 rfl (lv_at hl 0 rfl) ?_
  obtain ⟨hp, hq⟩ := hq
  refine w_cIp hH (w_rV (As := []) (rest := []) hX hK hE hH (c_X6_right   _ hp) ck6 sh111 q4_187 q4_189 qs35 q1_7 q4_190 hd_X6_right ⟨Nat.le_of_ble_eq_true rfl, Nat.le_of_ble_eq_true rfl⟩ ⟨rfl, rfl⟩ rfl hl.1 rfl (Nat.le_of_ble_eq_true rfl) dX6_openShare_6 ⟨Nat.zero_le _, Nat.zero_le _⟩) (fun r2  H locs hpo hH => ?_)
  have hq := hq r2  hpo
  refine lv_i2d hx hb dX6_openShare_9 ?_
  refine lv_ldc2d hx hb hown (hts _ q5_155) dX6_openShare_10 ?_
  obtain ⟨hc, hq⟩ := hq
  refine lv_ddiv hx hb dX6_openShare_13 hc ?_
  exact w_eD hX hr hlk hH hq dX6_openShare_14
abbrev rm_X6_meanNotch : Room := { frames := 1, cells := 0, slots := 0, locals := 22 }
theorem hd_X6_meanNotch : yX6_meanNotch.cls = RX6 ∧ yX6_meanNotch.cls ≠ "java/lang/invoke/MethodHandle" ∧ yX6_meanNotch.cls ≠ "java/lang/invoke/VarHandle" ∧ (parseMethodDescriptor yX6_meanNotch.desc).map (fun d => d.parameters.length) = some 0 := by decide +kernel
set_option maxRecDepth 100000 in
set_option maxHeartbeats 4000000 in
theorem c_X6_meanNotch {l : Launch} {D : va_G} {cs : wC4} {ad : Nat → Nat} {b : Nat} {G : wG}  (I : wI) (hp : pre_X6_meanNotch  I) : Met l yX6_meanNotch (ws_ yX6_meanNotch cX6_meanNotch 1 (some .float)) rm_X6_meanNotch (va_Pc [.ref (b + 111)] (wPr D cs ad b G I)) (va_Qf (fun r I' => post_X6_meanNotch  I r I') (wPo D cs b G) (fun q => b ≤ q)) 0 0 (fun q => b ≤ q) := by
  have hq := vc_X6_meanNotch  I hp
  refine w_met (by decide) (Nat.le_of_ble_eq_true rfl) ?_
  intro p e s m below meth c hX hr hlk hK hE hH ls hl
  have C0 : wCx p m c s _ meth cX6_meanNotch 1 RX6 (some .float) D cs ad b := ⟨hX, hr, hlk, hK, hE⟩
  have hX : CallFix p m c cX6_meanNotch 1 s _ lw_all RX6 := hX
  have hx := hX.1
  have hb := hX.2.1
  have hown := hX.2.2.2.1
  have hts := hX.2.2.2.2
  have hl : lv_has ls 1 [(0, .ref (b + 111))] := hl
  unfold v_X6_meanNotch at hq
  refine lv_aload_n hx hb dX6_meanNotch_0 rfl (lv_at hl 0 rfl) ?_
  refine lv_iconst (v := 0) hx hb dX6_meanNotch_1 (by decide) ?_
  refine w_puti hX hK hH ck6 sh111 0 fw6_0 q4_73 dX6_meanNotch_2 (fun I1 H locs hI hH => ?_)
  have hq := hq I1 hI
  refine lv_aload_n hx hb dX6_meanNotch_5 rfl (lv_at hl 0 rfl) ?_
  obtain ⟨hp, hq⟩ := hq
  refine w_cIp hH (w_rV (As := []) (rest := []) hX hK hE hH (c_X6_notches   _ hp) ck6 sh111 q5_29 q5_31 qs48 q1_7 q5_32 hd_X6_notches ⟨Nat.le_of_ble_eq_true rfl, Nat.le_of_ble_eq_true rfl⟩ ⟨rfl, rfl⟩ rfl hl.1 rfl (Nat.le_of_ble_eq_true rfl) dX6_meanNotch_6 ⟨Nat.zero_le _, Nat.zero_le _⟩) (fun r2  H locs hpo hH => ?_)
  have hq := hq r2  hpo
  refine lv_i2f hx hb dX6_meanNotch_9 ?_
  refine lv_ldcf hx hb hown (hts _ q5_160) dX6_meanNotch_10 ?_
  obtain ⟨hc, hq⟩ := hq
  refine lv_fdiv hx hb dX6_meanNotch_12 hc ?_
  exact w_eF hX hr hlk hH hq dX6_meanNotch_13
abbrev rm_J_isNaN : Room := { frames := 0, cells := 0, slots := 0, locals := 0 }
theorem hd_J_isNaN : yJxe99ae_isNaN_b9ae7.cls = RJxe99ae ∧ yJxe99ae_isNaN_b9ae7.cls ≠ "java/lang/invoke/MethodHandle" ∧ yJxe99ae_isNaN_b9ae7.cls ≠ "java/lang/invoke/VarHandle" ∧ (parseMethodDescriptor yJxe99ae_isNaN_b9ae7.desc).map (fun d => d.parameters.length) = some 1 := by decide +kernel
set_option maxRecDepth 100000 in
set_option maxHeartbeats 4000000 in
theorem s_J_isNaN_11 {x0 : UInt64} {I : wI} {Q : Int32 → Prop} (C0 : wCx p m c s args meth cJxe99ae_isNaN_b9ae7 2 RJxe99ae (some .boolean) D cs ad b) : ∀ (t0 : Int32) (H : Heap) (locs : List Loc) (ls : Array Slot), v_J_isNaN_11 x0 I Q t0 → wH D cs b G I s H locs → lv_has ls 2 [] → W p l e rm_J_isNaN s m args below meth c H locs 0 0 (MQ below (va_Qi (fun r I' => I' = I ∧ Q r) (wPo D cs b G) (fun q => b ≤ q)) args s 0 0 (fun q => b ≤ q)) (F0 m 11 ls [.int t0]) := by
  obtain ⟨hX, hr, hlk, hK, hE⟩ := id C0
  have hx := hX.1
  have hb := hX.2.1
  have hown := hX.2.2.2.1
  have hts := hX.2.2.2.2
  intro t0 H locs ls hq hH hl
  unfold v_J_isNaN_11 at hq
  obtain ⟨hz, hq⟩ := hq
  exact w_eZ hz hX hr hlk hH ⟨rfl, hq⟩ dJxe99ae_isNaN_b9ae7_11
set_option maxRecDepth 100000 in
set_option maxHeartbeats 4000000 in
theorem c_J_isNaN {l : Launch} {D : va_G} {cs : wC4} {ad : Nat → Nat} {b : Nat} {G : wG} (x0 : UInt64) (I : wI) (hp : pre_J_isNaN x0 I) : Met l yJxe99ae_isNaN_b9ae7 (ws_ yJxe99ae_isNaN_b9ae7 cJxe99ae_isNaN_b9ae7 2 (some .boolean)) rm_J_isNaN (va_Pc [.double x0] (wPr D cs ad b G I)) (va_Qi (fun r I' => I' = I ∧ post_J_isNaN x0 I r) (wPo D cs b G) (fun q => b ≤ q)) 0 0 (fun q => b ≤ q) := by
  have hq := vc_J_isNaN x0 I hp
  refine w_metF (by decide +kernel) (Nat.le_of_ble_eq_true rfl) ?_
  intro p e s m below meth c hX hr hlk hK hE hH ls hl
  have C0 : wCx p m c s _ meth cJxe99ae_isNaN_b9ae7 2 RJxe99ae (some .boolean) D cs ad b := ⟨hX, hr, hlk, hK, hE⟩
  have hX : CallFix p m c cJxe99ae_isNaN_b9ae7 2 s _ lw_all RJxe99ae := hX
  have hx := hX.1
  have hb := hX.2.1
  have hown := hX.2.2.2.1
  have hts := hX.2.2.2.2
  have hl : lv_has ls 2 [(0, .double x0)] := hl
  unfold v_J_isNaN at hq
  refine lv_dload_n hx hb dJxe99ae_isNaN_b9ae7_0 rfl (lv_at hl 0 rfl) ?_
  refine lv_dload_n hx hb dJxe99ae_isNaN_b9ae7_1 rfl (lv_at hl 0 rfl) ?_
  refine lv_dcmp hx hb dJxe99ae_isNaN_b9ae7_2 ?_
  refine lv_if_eq (tgt := 10) hx hb dJxe99ae_isNaN_b9ae7_3 (by decide) (fun hc => ?_) (fun hc => ?_)
  · have hq := hq.1 hc
    refine lv_iconst (v := 0) hx hb dJxe99ae_isNaN_b9ae7_10 (by decide) ?_
    exact s_J_isNaN_11  C0  (0 : Int32) _ _ _ hq hH (lv_sub hl [] rfl)
  · have hq := hq.2 hc
    refine lv_iconst (v := 1) hx hb dJxe99ae_isNaN_b9ae7_6 (by decide) ?_
    refine lv_goto (tgt := 11) hx hb dJxe99ae_isNaN_b9ae7_7 (by decide) ?_
    exact s_J_isNaN_11  C0  (1 : Int32) _ _ _ hq hH (lv_sub hl [] rfl)
abbrev rm_J_doubleToLongBits : Room := { frames := 1, cells := 0, slots := 0, locals := 40 }
theorem hd_J_doubleToLongBits : yJxe99ae_doubleToLongBits_ccdee.cls = RJxe99ae ∧ yJxe99ae_doubleToLongBits_ccdee.cls ≠ "java/lang/invoke/MethodHandle" ∧ yJxe99ae_doubleToLongBits_ccdee.cls ≠ "java/lang/invoke/VarHandle" ∧ (parseMethodDescriptor yJxe99ae_doubleToLongBits_ccdee.desc).map (fun d => d.parameters.length) = some 1 := by decide +kernel
set_option maxRecDepth 100000 in
set_option maxHeartbeats 4000000 in
theorem c_J_doubleToLongBits {l : Launch} {D : va_G} {cs : wC4} {ad : Nat → Nat} {b : Nat} {G : wG} (x0 : UInt64) (I : wI) (hp : pre_J_doubleToLongBits x0 I) : Met l yJxe99ae_doubleToLongBits_ccdee (ws_ yJxe99ae_doubleToLongBits_ccdee cJxe99ae_doubleToLongBits_ccdee 2 (some .long)) rm_J_doubleToLongBits (va_Pc [.double x0] (wPr D cs ad b G I)) (va_Ql (fun r I' => I' = I ∧ post_J_doubleToLongBits x0 I r) (wPo D cs b G) (fun q => b ≤ q)) 0 0 (fun q => b ≤ q) := by
  have hq := vc_J_doubleToLongBits x0 I hp
  refine w_metF (by decide +kernel) (Nat.le_of_ble_eq_true rfl) ?_
  intro p e s m below meth c hX hr hlk hK hE hH ls hl
  have C0 : wCx p m c s _ meth cJxe99ae_doubleToLongBits_ccdee 2 RJxe99ae (some .long) D cs ad b := ⟨hX, hr, hlk, hK, hE⟩
  have hX : CallFix p m c cJxe99ae_doubleToLongBits_ccdee 2 s _ lw_all RJxe99ae := hX
  have hx := hX.1
  have hb := hX.2.1
  have hown := hX.2.2.2.1
  have hts := hX.2.2.2.2
  have hl : lv_has ls 2 [(0, .double x0)] := hl
  unfold v_J_doubleToLongBits at hq
  refine lv_dload_n hx hb dJxe99ae_doubleToLongBits_ccdee_0 rfl (lv_at hl 0 rfl) ?_
  obtain ⟨hp, hq⟩ := hq
  refine w_cIp hH (w_rS (As := [.double x0]) (rest := []) hX hK hE hH (c_J_isNaN  _ _ hp) q5_170 q5_171 q1_16 q5_172 hd_J_isNaN.2 ⟨Nat.le_of_ble_eq_true rfl, Nat.le_of_ble_eq_true rfl⟩ ⟨rfl, rfl⟩ rfl hl.1 rfl (Nat.le_of_ble_eq_true rfl) dJxe99ae_doubleToLongBits_ccdee_1 ⟨Nat.zero_le _, Nat.zero_le _⟩) (fun r1  H locs hpo hH => ?_)
  have hq := hq r1  hpo
  refine lv_if_ne (tgt := 12) hx hb dJxe99ae_doubleToLongBits_ccdee_4 (by decide) (fun hc => ?_) (fun hc => ?_)
  · have hq := hq.1 hc
    refine lv_ldc2 hx hb hown (hts _ q5_176) dJxe99ae_doubleToLongBits_ccdee_12 ?_
    exact w_eL hX hr hlk hH ⟨rfl, hq⟩ dJxe99ae_doubleToLongBits_ccdee_15
  · have hq := hq.2 hc
    refine lv_dload_n hx hb dJxe99ae_doubleToLongBits_ccdee_7 rfl (lv_at hl 0 rfl) ?_
    refine vn_d2l hx hb (hX.2.2.1.trans hl.1.symm) hown (hts _ q5_173) (hts _ q5_175) (hts _ q5_174) (hts _ q1_16) (Nat.le_of_ble_eq_true rfl) (Nat.le_of_ble_eq_true rfl) dJxe99ae_doubleToLongBits_ccdee_8 ?_
    exact w_eL hX hr hlk hH ⟨rfl, hq⟩ dJxe99ae_doubleToLongBits_ccdee_11
abbrev rm_J_isNaNf : Room := { frames := 0, cells := 0, slots := 0, locals := 0 }
theorem hd_J_isNaNf : yJxf58ca_isNaN_12338.cls = RJxf58ca ∧ yJxf58ca_isNaN_12338.cls ≠ "java/lang/invoke/MethodHandle" ∧ yJxf58ca_isNaN_12338.cls ≠ "java/lang/invoke/VarHandle" ∧ (parseMethodDescriptor yJxf58ca_isNaN_12338.desc).map (fun d => d.parameters.length) = some 1 := by decide +kernel
set_option maxRecDepth 100000 in
set_option maxHeartbeats 4000000 in
theorem s_J_isNaNf_11 {x0 : UInt32} {I : wI} {Q : Int32 → Prop} (C0 : wCx p m c s args meth cJxf58ca_isNaN_12338 1 RJxf58ca (some .boolean) D cs ad b) : ∀ (t0 : Int32) (H : Heap) (locs : List Loc) (ls : Array Slot), v_J_isNaNf_11 x0 I Q t0 → wH D cs b G I s H locs → lv_has ls 1 [] → W p l e rm_J_isNaNf s m args below meth c H locs 0 0 (MQ below (va_Qi (fun r I' => I' = I ∧ Q r) (wPo D cs b G) (fun q => b ≤ q)) args s 0 0 (fun q => b ≤ q)) (F0 m 11 ls [.int t0]) := by
  obtain ⟨hX, hr, hlk, hK, hE⟩ := id C0
  have hx := hX.1
  have hb := hX.2.1
  have hown := hX.2.2.2.1
  have hts := hX.2.2.2.2
  intro t0 H locs ls hq hH hl
  unfold v_J_isNaNf_11 at hq
  obtain ⟨hz, hq⟩ := hq
  exact w_eZ hz hX hr hlk hH ⟨rfl, hq⟩ dJxf58ca_isNaN_12338_11
set_option maxRecDepth 100000 in
set_option maxHeartbeats 4000000 in
theorem c_J_isNaNf {l : Launch} {D : va_G} {cs : wC4} {ad : Nat → Nat} {b : Nat} {G : wG} (x0 : UInt32) (I : wI) (hp : pre_J_isNaNf x0 I) : Met l yJxf58ca_isNaN_12338 (ws_ yJxf58ca_isNaN_12338 cJxf58ca_isNaN_12338 1 (some .boolean)) rm_J_isNaNf (va_Pc [.float x0] (wPr D cs ad b G I)) (va_Qi (fun r I' => I' = I ∧ post_J_isNaNf x0 I r) (wPo D cs b G) (fun q => b ≤ q)) 0 0 (fun q => b ≤ q) := by
  have hq := vc_J_isNaNf x0 I hp
  refine w_metF (by decide +kernel) (Nat.le_of_ble_eq_true rfl) ?_
  intro p e s m below meth c hX hr hlk hK hE hH ls hl
  have C0 : wCx p m c s _ meth cJxf58ca_isNaN_12338 1 RJxf58ca (some .boolean) D cs ad b := ⟨hX, hr, hlk, hK, hE⟩
  have hX : CallFix p m c cJxf58ca_isNaN_12338 1 s _ lw_all RJxf58ca := hX
  have hx := hX.1
  have hb := hX.2.1
  have hown := hX.2.2.2.1
  have hts := hX.2.2.2.2
  have hl : lv_has ls 1 [(0, .float x0)] := hl
  unfold v_J_isNaNf at hq
  refine lv_fload_n hx hb dJxf58ca_isNaN_12338_0 rfl (lv_at hl 0 rfl) ?_
  refine lv_fload_n hx hb dJxf58ca_isNaN_12338_1 rfl (lv_at hl 0 rfl) ?_
  refine lv_fcmp hx hb dJxf58ca_isNaN_12338_2 ?_
  refine lv_if_eq (tgt := 10) hx hb dJxf58ca_isNaN_12338_3 (by decide) (fun hc => ?_) (fun hc => ?_)
  · have hq := hq.1 hc
    refine lv_iconst (v := 0) hx hb dJxf58ca_isNaN_12338_10 (by decide) ?_
    exact s_J_isNaNf_11  C0  (0 : Int32) _ _ _ hq hH (lv_sub hl [] rfl)
  · have hq := hq.2 hc
    refine lv_iconst (v := 1) hx hb dJxf58ca_isNaN_12338_6 (by decide) ?_
    refine lv_goto (tgt := 11) hx hb dJxf58ca_isNaN_12338_7 (by decide) ?_
    exact s_J_isNaNf_11  C0  (1 : Int32) _ _ _ hq hH (lv_sub hl [] rfl)
abbrev rm_J_floatToIntBits : Room := { frames := 1, cells := 0, slots := 0, locals := 40 }
theorem hd_J_floatToIntBits : yJxf58ca_floatToIntBits_5c35a.cls = RJxf58ca ∧ yJxf58ca_floatToIntBits_5c35a.cls ≠ "java/lang/invoke/MethodHandle" ∧ yJxf58ca_floatToIntBits_5c35a.cls ≠ "java/lang/invoke/VarHandle" ∧ (parseMethodDescriptor yJxf58ca_floatToIntBits_5c35a.desc).map (fun d => d.parameters.length) = some 1 := by decide +kernel
set_option maxRecDepth 100000 in
set_option maxHeartbeats 4000000 in
theorem c_J_floatToIntBits {l : Launch} {D : va_G} {cs : wC4} {ad : Nat → Nat} {b : Nat} {G : wG} (x0 : UInt32) (I : wI) (hp : pre_J_floatToIntBits x0 I) : Met l yJxf58ca_floatToIntBits_5c35a (ws_ yJxf58ca_floatToIntBits_5c35a cJxf58ca_floatToIntBits_5c35a 1 (some .int)) rm_J_floatToIntBits (va_Pc [.float x0] (wPr D cs ad b G I)) (va_Qi (fun r I' => I' = I ∧ post_J_floatToIntBits x0 I r) (wPo D cs b G) (fun q => b ≤ q)) 0 0 (fun q => b ≤ q) := by
  have hq := vc_J_floatToIntBits x0 I hp
  refine w_metF (by decide +kernel) (Nat.le_of_ble_eq_true rfl) ?_
  intro p e s m below meth c hX hr hlk hK hE hH ls hl
  have C0 : wCx p m c s _ meth cJxf58ca_floatToIntBits_5c35a 1 RJxf58ca (some .int) D cs ad b := ⟨hX, hr, hlk, hK, hE⟩
  have hX : CallFix p m c cJxf58ca_floatToIntBits_5c35a 1 s _ lw_all RJxf58ca := hX
  have hx := hX.1
  have hb := hX.2.1
  have hown := hX.2.2.2.1
  have hts := hX.2.2.2.2
  have hl : lv_has ls 1 [(0, .float x0)] := hl
  unfold v_J_floatToIntBits at hq
  refine lv_fload_n hx hb dJxf58ca_floatToIntBits_5c35a_0 rfl (lv_at hl 0 rfl) ?_
  obtain ⟨hp, hq⟩ := hq
  refine w_cIp hH (w_rS (As := [.float x0]) (rest := []) hX hK hE hH (c_J_isNaNf  _ _ hp) q5_180 q5_181 q1_17 q5_182 hd_J_isNaNf.2 ⟨Nat.le_of_ble_eq_true rfl, Nat.le_of_ble_eq_true rfl⟩ ⟨rfl, rfl⟩ rfl hl.1 rfl (Nat.le_of_ble_eq_true rfl) dJxf58ca_floatToIntBits_5c35a_1 ⟨Nat.zero_le _, Nat.zero_le _⟩) (fun r1  H locs hpo hH => ?_)
  have hq := hq r1  hpo
  refine lv_if_ne (tgt := 12) hx hb dJxf58ca_floatToIntBits_5c35a_4 (by decide) (fun hc => ?_) (fun hc => ?_)
  · have hq := hq.1 hc
    refine lv_ldc hx hb hown (hts _ q5_186) dJxf58ca_floatToIntBits_5c35a_12 ?_
    exact w_eI hX hr hlk hH ⟨rfl, hq⟩ dJxf58ca_floatToIntBits_5c35a_14
  · have hq := hq.2 hc
    refine lv_fload_n hx hb dJxf58ca_floatToIntBits_5c35a_7 rfl (lv_at hl 0 rfl) ?_
    refine vn_f2i hx hb (hX.2.2.1.trans hl.1.symm) hown (hts _ q5_183) (hts _ q5_185) (hts _ q5_184) (hts _ q1_17) (Nat.le_of_ble_eq_true rfl) (Nat.le_of_ble_eq_true rfl) dJxf58ca_floatToIntBits_5c35a_8 ?_
    exact w_eI hX hr hlk hH ⟨rfl, hq⟩ dJxf58ca_floatToIntBits_5c35a_11
abbrev rm_X6_digest : Room := { frames := 5, cells := 0, slots := 0, locals := 122 }
theorem hd_X6_digest : yX6_digest.cls = RX6 ∧ yX6_digest.cls ≠ "java/lang/invoke/MethodHandle" ∧ yX6_digest.cls ≠ "java/lang/invoke/VarHandle" ∧ (parseMethodDescriptor yX6_digest.desc).map (fun d => d.parameters.length) = some 0 := by decide +kernel
set_option maxRecDepth 100000 in
set_option maxHeartbeats 4000000 in
theorem s_X6_digest_294 {Q : Int64 → wI → Prop} (C0 : wCx p m c s args meth cX6_digest 5 RX6 (some .long) D cs ad b) : ∀ (f : Nat) (v1 : Int64) (v3 : Int32) (I : wI) (H : Heap) (locs : List Loc) (ls : Array Slot), v_X6_digest_294 Q f v1 v3 I → wH D cs b G I s H locs → lv_has ls 5 [(0, .ref (b + 111)), (1, .long v1), (3, .int v3)] → W p l e rm_X6_digest s m args below meth c H locs 0 0 (MQ below (va_Ql (Q) (wPo D cs b G) (fun q => b ≤ q)) args s 0 0 (fun q => b ≤ q)) (F0 m 294 ls []) := by
  obtain ⟨hX, hr, hlk, hK, hE⟩ := id C0
  have hx := hX.1
  have hb := hX.2.1
  have hown := hX.2.2.2.1
  have hts := hX.2.2.2.2
  intro f
  induction f with
  | zero =>
    intro v1 v3 I H locs ls hq
    exact hq.elim
  | succ f hK294 =>
    intro v1 v3 I H locs ls hq hH hl
    have hq : g_X6_digest_294 Q (v_X6_digest_294 Q f) v1 v3 I := hq
    unfold g_X6_digest_294 at hq
    refine lv_iload_n hx hb dX6_digest_294 rfl (lv_at hl 2 rfl) ?_
    refine lv_aload_n hx hb dX6_digest_295 rfl (lv_at hl 0 rfl) ?_
    refine w_geti hX hK hH ck6 sh111 8 fi6_8 q4_81 dX6_digest_296 ?_
    refine lv_icmp_ge (tgt := 322) hx hb dX6_digest_299 (by decide) (fun hc => ?_) (fun hc => ?_)
    · have hq := hq.1 hc
      refine lv_lload_n hx hb dX6_digest_322 rfl (lv_at hl 1 rfl) ?_
      exact w_eL hX hr hlk hH hq dX6_digest_323
    · have hq := hq.2 hc
      refine lv_ldc2 hx hb hown (hts _ q5_166) dX6_digest_302 ?_
      refine lv_lload_n hx hb dX6_digest_305 rfl (lv_at hl 1 rfl) ?_
      refine lv_lmul hx hb dX6_digest_306 ?_
      refine lv_aload_n hx hb dX6_digest_307 rfl (lv_at hl 0 rfl) ?_
      refine w_getr hX hK hH ck6 sh111 7 5 116 fr6_7 rfl q4_80 dX6_digest_308 ?_
      refine lv_iload_n hx hb dX6_digest_311 rfl (lv_at hl 2 rfl) ?_
      obtain ⟨hc, hq⟩ := hq
      refine w_iald hX hK hH (sf6_7 sh111) hc dX6_digest_312 ?_
      refine lv_i2l hx hb dX6_digest_313 rfl ?_
      refine lv_ladd hx hb dX6_digest_314 ?_
      refine lv_lstore_n (lv' := [(1, .long (((31 : Int64) * v1) + ((I 116 (v3).toNatClampNeg)).toInt64)), (0, .ref (b + 111)), (3, .int v3)]) hx hb dX6_digest_315 rfl hl (by decide) rfl (fun ls hl => ?_)
      refine lv_iinc (v := (v3 + (1 : Int32))) (lv' := [(3, .int (v3 + (1 : Int32))), (1, .long (((31 : Int64) * v1) + ((I 116 (v3).toNatClampNeg)).toInt64)), (0, .ref (b + 111))]) hx hb dX6_digest_316 hl (k := 2) rfl rfl (by decide) rfl (fun ls hl => ?_)
      refine lv_goto (tgt := 294) hx hb dX6_digest_319 (by decide) ?_
      exact hK294 (((31 : Int64) * v1) + ((I 116 (v3).toNatClampNeg)).toInt64) (v3 + (1 : Int32)) _ _ _ _ hq hH (lv_sub hl [2, 1, 0] rfl)
set_option maxRecDepth 100000 in
set_option maxHeartbeats 4000000 in
theorem s_X6_digest_277 {Q : Int64 → wI → Prop} (C0 : wCx p m c s args meth cX6_digest 5 RX6 (some .long) D cs ad b) : ∀ (t0 : Int32) (t1 : Int64) (I : wI) (H : Heap) (locs : List Loc) (ls : Array Slot), v_X6_digest_277 Q t0 t1 I → wH D cs b G I s H locs → lv_has ls 5 [(0, .ref (b + 111))] → W p l e rm_X6_digest s m args below meth c H locs 0 0 (MQ below (va_Ql (Q) (wPo D cs b G) (fun q => b ≤ q)) args s 0 0 (fun q => b ≤ q)) (F0 m 277 ls [.int t0, .long t1]) := by
  obtain ⟨hX, hr, hlk, hK, hE⟩ := id C0
  have hx := hX.1
  have hb := hX.2.1
  have hown := hX.2.2.2.1
  have hts := hX.2.2.2.2
  intro t0 t1 I H locs ls hq hH hl
  unfold v_X6_digest_277 at hq
  refine lv_i2l hx hb dX6_digest_277 rfl ?_
  refine lv_ladd hx hb dX6_digest_278 ?_
  refine lv_lstore_n (lv' := [(1, .long (t1 + (t0).toInt64)), (0, .ref (b + 111))]) hx hb dX6_digest_279 rfl hl (by decide) rfl (fun ls hl => ?_)
  refine lv_ldc2 hx hb hown (hts _ q5_166) dX6_digest_280 ?_
  refine lv_lload_n hx hb dX6_digest_283 rfl (lv_at hl 0 rfl) ?_
  refine lv_lmul hx hb dX6_digest_284 ?_
  refine lv_aload_n hx hb dX6_digest_285 rfl (lv_at hl 1 rfl) ?_
  refine w_geti hX hK hH ck6 sh111 8 fi6_8 q4_81 dX6_digest_286 ?_
  refine lv_i2l hx hb dX6_digest_289 rfl ?_
  refine lv_ladd hx hb dX6_digest_290 ?_
  refine lv_lstore_n (lv' := [(1, .long (((31 : Int64) * (t1 + (t0).toInt64)) + ((I 111 8)).toInt64)), (0, .ref (b + 111))]) hx hb dX6_digest_291 rfl hl (by decide) rfl (fun ls hl => ?_)
  refine lv_iconst (v := 0) hx hb dX6_digest_292 (by decide) ?_
  refine lv_istore_n (lv' := [(3, .int (0 : Int32)), (1, .long (((31 : Int64) * (t1 + (t0).toInt64)) + ((I 111 8)).toInt64)), (0, .ref (b + 111))]) hx hb dX6_digest_293 rfl hl (by decide) rfl (fun ls hl => ?_)
  obtain ⟨f, hq⟩ := hq
  exact s_X6_digest_294  C0  f (((31 : Int64) * (t1 + (t0).toInt64)) + ((I 111 8)).toInt64) (0 : Int32) _ _ _ _ hq hH (lv_sub hl [2, 1, 0] rfl)
set_option maxRecDepth 100000 in
set_option maxHeartbeats 4000000 in
theorem s_X6_digest_152 {Q : Int64 → wI → Prop} (C0 : wCx p m c s args meth cX6_digest 5 RX6 (some .long) D cs ad b) : ∀ (f : Nat) (v1 : Int64) (v3 : Int32) (I : wI) (H : Heap) (locs : List Loc) (ls : Array Slot), v_X6_digest_152 Q f v1 v3 I → wH D cs b G I s H locs → lv_has ls 5 [(0, .ref (b + 111)), (1, .long v1), (3, .int v3)] → W p l e rm_X6_digest s m args below meth c H locs 0 0 (MQ below (va_Ql (Q) (wPo D cs b G) (fun q => b ≤ q)) args s 0 0 (fun q => b ≤ q)) (F0 m 152 ls []) := by
  obtain ⟨hX, hr, hlk, hK, hE⟩ := id C0
  have hx := hX.1
  have hb := hX.2.1
  have hown := hX.2.2.2.1
  have hts := hX.2.2.2.2
  intro f
  induction f with
  | zero =>
    intro v1 v3 I H locs ls hq
    exact hq.elim
  | succ f hK152 =>
    intro v1 v3 I H locs ls hq hH hl
    have hq : g_X6_digest_152 Q (v_X6_digest_152 Q f) v1 v3 I := hq
    unfold g_X6_digest_152 at hq
    refine lv_iload_n hx hb dX6_digest_152 rfl (lv_at hl 2 rfl) ?_
    refine lv_bipush (v := 125) hx hb dX6_digest_153 (by decide) ?_
    refine lv_icmp_ge (tgt := 188) hx hb dX6_digest_155 (by decide) (fun hc => ?_) (fun hc => ?_)
    · have hq := hq.1 hc
      refine lv_ldc2 hx hb hown (hts _ q5_166) dX6_digest_188 ?_
      refine lv_ldc2 hx hb hown (hts _ q5_166) dX6_digest_191 ?_
      refine lv_ldc2 hx hb hown (hts _ q5_166) dX6_digest_194 ?_
      refine lv_lload_n hx hb dX6_digest_197 rfl (lv_at hl 1 rfl) ?_
      refine lv_lmul hx hb dX6_digest_198 ?_
      refine lv_aload_n hx hb dX6_digest_199 rfl (lv_at hl 0 rfl) ?_
      refine lv_iconst (v := 0) hx hb dX6_digest_200 (by decide) ?_
      obtain ⟨hp, hq⟩ := hq
      refine w_cI hH (w_rV (As := [.int (0 : Int32)]) (rest := [.long ((31 : Int64) * v1), .long (31 : Int64), .long (31 : Int64)]) hX hK hE hH (c_X6_findOpen  _ _ hp) ck6 sh111 q5_124 q5_126 qs62 q1_7 q5_127 hd_X6_findOpen ⟨Nat.le_of_ble_eq_true rfl, Nat.le_of_ble_eq_true rfl⟩ ⟨rfl, rfl⟩ rfl hl.1 rfl (Nat.le_of_ble_eq_true rfl) dX6_digest_201 ⟨Nat.zero_le _, Nat.zero_le _⟩) (fun r1 I2 H locs hpo hH => ?_)
      have hq := hq r1 I2 hpo
      refine lv_i2l hx hb dX6_digest_204 rfl ?_
      refine lv_ladd hx hb dX6_digest_205 ?_
      refine lv_lmul hx hb dX6_digest_206 ?_
      refine lv_aload_n hx hb dX6_digest_207 rfl (lv_at hl 0 rfl) ?_
      refine lv_iconst (v := 1) hx hb dX6_digest_208 (by decide) ?_
      obtain ⟨hp, hq⟩ := hq
      refine w_cI hH (w_rV (As := [.int (1 : Int32)]) (rest := [.long ((31 : Int64) * (((31 : Int64) * v1) + (r1).toInt64)), .long (31 : Int64)]) hX hK hE hH (c_X6_findOpen  _ _ hp) ck6 sh111 q5_124 q5_126 qs62 q1_7 q5_127 hd_X6_findOpen ⟨Nat.le_of_ble_eq_true rfl, Nat.le_of_ble_eq_true rfl⟩ ⟨rfl, rfl⟩ rfl hl.1 rfl (Nat.le_of_ble_eq_true rfl) dX6_digest_209 ⟨Nat.zero_le _, Nat.zero_le _⟩) (fun r3 I4 H locs hpo hH => ?_)
      have hq := hq r3 I4 hpo
      refine lv_i2l hx hb dX6_digest_212 rfl ?_
      refine lv_ladd hx hb dX6_digest_213 ?_
      refine lv_lmul hx hb dX6_digest_214 ?_
      refine lv_aload_n hx hb dX6_digest_215 rfl (lv_at hl 0 rfl) ?_
      obtain ⟨hp, hq⟩ := hq
      refine w_cI hH (w_rV (As := []) (rest := [.long ((31 : Int64) * (((31 : Int64) * (((31 : Int64) * v1) + (r1).toInt64)) + (r3).toInt64))]) hX hK hE hH (c_X6_findClosest   _ hp) ck6 sh111 q5_147 q5_149 qs65 q1_7 q5_150 hd_X6_findClosest ⟨Nat.le_of_ble_eq_true rfl, Nat.le_of_ble_eq_true rfl⟩ ⟨rfl, rfl⟩ rfl hl.1 rfl (Nat.le_of_ble_eq_true rfl) dX6_digest_216 ⟨Nat.zero_le _, Nat.zero_le _⟩) (fun r5 I6 H locs hpo hH => ?_)
      have hq := hq r5 I6 hpo
      refine lv_i2l hx hb dX6_digest_219 rfl ?_
      refine lv_ladd hx hb dX6_digest_220 ?_
      refine lv_lstore_n (lv' := [(1, .long (((31 : Int64) * (((31 : Int64) * (((31 : Int64) * v1) + (r1).toInt64)) + (r3).toInt64)) + (r5).toInt64)), (0, .ref (b + 111)), (3, .int v3)]) hx hb dX6_digest_221 rfl hl (by decide) rfl (fun ls hl => ?_)
      refine lv_ldc2 hx hb hown (hts _ q5_166) dX6_digest_222 ?_
      refine lv_lload_n hx hb dX6_digest_225 rfl (lv_at hl 0 rfl) ?_
      refine lv_lmul hx hb dX6_digest_226 ?_
      refine lv_aload_n hx hb dX6_digest_227 rfl (lv_at hl 1 rfl) ?_
      obtain ⟨hp, hq⟩ := hq
      refine w_cIp hH (w_rV (As := []) (rest := [.long ((31 : Int64) * (((31 : Int64) * (((31 : Int64) * (((31 : Int64) * v1) + (r1).toInt64)) + (r3).toInt64)) + (r5).toInt64))]) hX hK hE hH (c_X6_right   _ hp) ck6 sh111 q4_187 q4_189 qs35 q1_7 q4_190 hd_X6_right ⟨Nat.le_of_ble_eq_true rfl, Nat.le_of_ble_eq_true rfl⟩ ⟨rfl, rfl⟩ rfl hl.1 rfl (Nat.le_of_ble_eq_true rfl) dX6_digest_228 ⟨Nat.zero_le _, Nat.zero_le _⟩) (fun r7  H locs hpo hH => ?_)
      have hq := hq r7  hpo
      refine lv_i2d hx hb dX6_digest_231 ?_
      refine lv_ldc2d hx hb hown (hts _ q5_155) dX6_digest_232 ?_
      obtain ⟨hc, hq⟩ := hq
      refine lv_ddiv hx hb dX6_digest_235 hc ?_
      obtain ⟨hp, hq⟩ := hq
      refine w_cLp hH (w_rS (As := [.double (FP.ddiv (FP.i2d r7) (4618441417868443648 : UInt64))]) (rest := [.long ((31 : Int64) * (((31 : Int64) * (((31 : Int64) * (((31 : Int64) * v1) + (r1).toInt64)) + (r3).toInt64)) + (r5).toInt64))]) hX hK hE hH (c_J_doubleToLongBits  _ _ hp) q5_167 q5_168 q1_16 q5_169 hd_J_doubleToLongBits.2 ⟨Nat.le_of_ble_eq_true rfl, Nat.le_of_ble_eq_true rfl⟩ ⟨rfl, rfl⟩ rfl hl.1 rfl (Nat.le_of_ble_eq_true rfl) dX6_digest_236 ⟨Nat.zero_le _, Nat.zero_le _⟩) (fun r8  H locs hpo hH => ?_)
      have hq := hq r8  hpo
      refine lv_ladd hx hb dX6_digest_239 ?_
      refine lv_lstore_n (lv' := [(1, .long (((31 : Int64) * (((31 : Int64) * (((31 : Int64) * (((31 : Int64) * v1) + (r1).toInt64)) + (r3).toInt64)) + (r5).toInt64)) + r8)), (0, .ref (b + 111)), (3, .int v3)]) hx hb dX6_digest_240 rfl hl (by decide) rfl (fun ls hl => ?_)
      refine lv_ldc2 hx hb hown (hts _ q5_166) dX6_digest_241 ?_
      refine lv_lload_n hx hb dX6_digest_244 rfl (lv_at hl 0 rfl) ?_
      refine lv_lmul hx hb dX6_digest_245 ?_
      refine lv_aload_n hx hb dX6_digest_246 rfl (lv_at hl 1 rfl) ?_
      obtain ⟨hp, hq⟩ := hq
      refine w_cIp hH (w_rV (As := []) (rest := [.long ((31 : Int64) * (((31 : Int64) * (((31 : Int64) * (((31 : Int64) * (((31 : Int64) * v1) + (r1).toInt64)) + (r3).toInt64)) + (r5).toInt64)) + r8))]) hX hK hE hH (c_X6_notches   _ hp) ck6 sh111 q5_29 q5_31 qs48 q1_7 q5_32 hd_X6_notches ⟨Nat.le_of_ble_eq_true rfl, Nat.le_of_ble_eq_true rfl⟩ ⟨rfl, rfl⟩ rfl hl.1 rfl (Nat.le_of_ble_eq_true rfl) dX6_digest_247 ⟨Nat.zero_le _, Nat.zero_le _⟩) (fun r9  H locs hpo hH => ?_)
      have hq := hq r9  hpo
      refine lv_i2f hx hb dX6_digest_250 ?_
      refine lv_ldcf hx hb hown (hts _ q5_160) dX6_digest_251 ?_
      obtain ⟨hc, hq⟩ := hq
      refine lv_fdiv hx hb dX6_digest_253 hc ?_
      obtain ⟨hp, hq⟩ := hq
      refine w_cIp hH (w_rS (As := [.float (FP.fdiv (FP.i2f r9) (1086324736 : UInt32))]) (rest := [.long ((31 : Int64) * (((31 : Int64) * (((31 : Int64) * (((31 : Int64) * (((31 : Int64) * v1) + (r1).toInt64)) + (r3).toInt64)) + (r5).toInt64)) + r8))]) hX hK hE hH (c_J_floatToIntBits  _ _ hp) q5_177 q5_178 q1_17 q5_179 hd_J_floatToIntBits.2 ⟨Nat.le_of_ble_eq_true rfl, Nat.le_of_ble_eq_true rfl⟩ ⟨rfl, rfl⟩ rfl hl.1 rfl (Nat.le_of_ble_eq_true rfl) dX6_digest_254 ⟨Nat.zero_le _, Nat.zero_le _⟩) (fun r10  H locs hpo hH => ?_)
      have hq := hq r10  hpo
      refine lv_i2l hx hb dX6_digest_257 rfl ?_
      refine lv_ladd hx hb dX6_digest_258 ?_
      refine lv_lstore_n (lv' := [(1, .long (((31 : Int64) * (((31 : Int64) * (((31 : Int64) * (((31 : Int64) * (((31 : Int64) * v1) + (r1).toInt64)) + (r3).toInt64)) + (r5).toInt64)) + r8)) + (r10).toInt64)), (0, .ref (b + 111)), (3, .int v3)]) hx hb dX6_digest_259 rfl hl (by decide) rfl (fun ls hl => ?_)
      refine lv_ldc2 hx hb hown (hts _ q5_166) dX6_digest_260 ?_
      refine lv_lload_n hx hb dX6_digest_263 rfl (lv_at hl 0 rfl) ?_
      refine lv_lmul hx hb dX6_digest_264 ?_
      refine lv_aload_n hx hb dX6_digest_265 rfl (lv_at hl 1 rfl) ?_
      refine w_geti hX hK hH ck6 sh111 6 fi6_6 q4_79 dX6_digest_266 ?_
      refine lv_if_eq (tgt := 276) hx hb dX6_digest_269 (by decide) (fun hc => ?_) (fun hc => ?_)
      · have hq := hq.1 hc
        refine lv_iconst (v := 0) hx hb dX6_digest_276 (by decide) ?_
        exact s_X6_digest_277  C0  (0 : Int32) ((31 : Int64) * (((31 : Int64) * (((31 : Int64) * (((31 : Int64) * (((31 : Int64) * (((31 : Int64) * v1) + (r1).toInt64)) + (r3).toInt64)) + (r5).toInt64)) + r8)) + (r10).toInt64)) _ _ _ _ hq hH (lv_sub hl [1] rfl)
      · have hq := hq.2 hc
        refine lv_iconst (v := 1) hx hb dX6_digest_272 (by decide) ?_
        refine lv_goto (tgt := 277) hx hb dX6_digest_273 (by decide) ?_
        exact s_X6_digest_277  C0  (1 : Int32) ((31 : Int64) * (((31 : Int64) * (((31 : Int64) * (((31 : Int64) * (((31 : Int64) * (((31 : Int64) * v1) + (r1).toInt64)) + (r3).toInt64)) + (r5).toInt64)) + r8)) + (r10).toInt64)) _ _ _ _ hq hH (lv_sub hl [1] rfl)
    · have hq := hq.2 hc
      refine lv_ldc2 hx hb hown (hts _ q5_166) dX6_digest_158 ?_
      refine lv_lload_n hx hb dX6_digest_161 rfl (lv_at hl 1 rfl) ?_
      refine lv_lmul hx hb dX6_digest_162 ?_
      refine lv_aload_n hx hb dX6_digest_163 rfl (lv_at hl 0 rfl) ?_
      refine lv_iload_n hx hb dX6_digest_164 rfl (lv_at hl 2 rfl) ?_
      refine lv_bipush (v := 25) hx hb dX6_digest_165 (by decide) ?_
      refine lv_idiv hx hb dX6_digest_167 (by decide) ?_
      refine lv_iload_n hx hb dX6_digest_168 rfl (lv_at hl 2 rfl) ?_
      refine lv_iconst (v := 5) hx hb dX6_digest_169 (by decide) ?_
      refine lv_idiv hx hb dX6_digest_170 (by decide) ?_
      refine lv_iconst (v := 5) hx hb dX6_digest_171 (by decide) ?_
      refine lv_irem hx hb dX6_digest_172 (by decide) ?_
      refine lv_iload_n hx hb dX6_digest_173 rfl (lv_at hl 2 rfl) ?_
      refine lv_iconst (v := 5) hx hb dX6_digest_174 (by decide) ?_
      refine lv_irem hx hb dX6_digest_175 (by decide) ?_
      obtain ⟨hp, hq⟩ := hq
      refine w_cI hH (w_rV (As := [.int (v3 / (25 : Int32)), .int ((v3 / (5 : Int32)) - (v3 / (5 : Int32)) / (5 : Int32) * (5 : Int32)), .int (v3 - v3 / (5 : Int32) * (5 : Int32))]) (rest := [.long ((31 : Int64) * v1)]) hX hK hE hH (c_X6_pairNow  _ _ _ _ hp) ck6 sh111 q5_88 q5_90 qs56 q1_7 q5_91 hd_X6_pairNow ⟨Nat.le_of_ble_eq_true rfl, Nat.le_of_ble_eq_true rfl⟩ ⟨rfl, rfl⟩ rfl hl.1 rfl (Nat.le_of_ble_eq_true rfl) dX6_digest_176 ⟨Nat.zero_le _, Nat.zero_le _⟩) (fun r11 I12 H locs hpo hH => ?_)
      have hq := hq r11 I12 hpo
      refine lv_i2l hx hb dX6_digest_179 rfl ?_
      refine lv_ladd hx hb dX6_digest_180 ?_
      refine lv_lstore_n (lv' := [(1, .long (((31 : Int64) * v1) + (r11).toInt64)), (0, .ref (b + 111)), (3, .int v3)]) hx hb dX6_digest_181 rfl hl (by decide) rfl (fun ls hl => ?_)
      refine lv_iinc (v := (v3 + (1 : Int32))) (lv' := [(3, .int (v3 + (1 : Int32))), (1, .long (((31 : Int64) * v1) + (r11).toInt64)), (0, .ref (b + 111))]) hx hb dX6_digest_182 hl (k := 2) rfl rfl (by decide) rfl (fun ls hl => ?_)
      refine lv_goto (tgt := 152) hx hb dX6_digest_185 (by decide) ?_
      exact hK152 (((31 : Int64) * v1) + (r11).toInt64) (v3 + (1 : Int32)) _ _ _ _ hq hH (lv_sub hl [2, 1, 0] rfl)
set_option maxRecDepth 100000 in
set_option maxHeartbeats 4000000 in
theorem s_X6_digest_90 {Q : Int64 → wI → Prop} {K82 : Int64 → Int32 → wI → Prop} (C0 : wCx p m c s args meth cX6_digest 5 RX6 (some .long) D cs ad b) (hK82 : ∀ (v1 : Int64) (v3 : Int32) (I : wI) (H : Heap) (locs : List Loc) (ls : Array Slot), K82 v1 v3 I → wH D cs b G I s H locs → lv_has ls 5 [(0, .ref (b + 111)), (1, .long v1), (3, .int v3)] → W p l e rm_X6_digest s m args below meth c H locs 0 0 (MQ below (va_Ql (Q) (wPo D cs b G) (fun q => b ≤ q)) args s 0 0 (fun q => b ≤ q)) (F0 m 82 ls [])) : ∀ (f : Nat) (v1 : Int64) (v3 : Int32) (v4 : Int32) (I : wI) (H : Heap) (locs : List Loc) (ls : Array Slot), v_X6_digest_90 Q K82 f v1 v3 v4 I → wH D cs b G I s H locs → lv_has ls 5 [(0, .ref (b + 111)), (1, .long v1), (3, .int v3), (4, .int v4)] → W p l e rm_X6_digest s m args below meth c H locs 0 0 (MQ below (va_Ql (Q) (wPo D cs b G) (fun q => b ≤ q)) args s 0 0 (fun q => b ≤ q)) (F0 m 90 ls []) := by
  obtain ⟨hX, hr, hlk, hK, hE⟩ := id C0
  have hx := hX.1
  have hb := hX.2.1
  have hown := hX.2.2.2.1
  have hts := hX.2.2.2.2
  intro f
  induction f with
  | zero =>
    intro v1 v3 v4 I H locs ls hq
    exact hq.elim
  | succ f hK90 =>
    intro v1 v3 v4 I H locs ls hq hH hl
    have hq : g_X6_digest_90 Q K82 (v_X6_digest_90 Q K82 f) v1 v3 v4 I := hq
    unfold g_X6_digest_90 at hq
    refine lv_iload hx hb dX6_digest_90 (lv_at hl 3 rfl) ?_
    refine lv_bipush (v := 6) hx hb dX6_digest_92 (by decide) ?_
    refine lv_icmp_ge (tgt := 118) hx hb dX6_digest_94 (by decide) (fun hc => ?_) (fun hc => ?_)
    · have hq := hq.1 hc
      refine lv_ldc2 hx hb hown (hts _ q5_166) dX6_digest_118 ?_
      refine lv_ldc2 hx hb hown (hts _ q5_166) dX6_digest_121 ?_
      refine lv_lload_n hx hb dX6_digest_124 rfl (lv_at hl 1 rfl) ?_
      refine lv_lmul hx hb dX6_digest_125 ?_
      refine lv_aload_n hx hb dX6_digest_126 rfl (lv_at hl 0 rfl) ?_
      refine lv_iload_n hx hb dX6_digest_127 rfl (lv_at hl 2 rfl) ?_
      refine lv_iconst (v := 0) hx hb dX6_digest_128 (by decide) ?_
      obtain ⟨hp, hq⟩ := hq
      refine w_cI hH (w_rV (As := [.int v3, .int (0 : Int32)]) (rest := [.long ((31 : Int64) * v1), .long (31 : Int64)]) hX hK hE hH (c_X6_rightIf  _ _ _ hp) ck6 sh111 q5_139 q5_141 qs64 q1_7 q5_142 hd_X6_rightIf ⟨Nat.le_of_ble_eq_true rfl, Nat.le_of_ble_eq_true rfl⟩ ⟨rfl, rfl⟩ rfl hl.1 rfl (Nat.le_of_ble_eq_true rfl) dX6_digest_129 ⟨Nat.zero_le _, Nat.zero_le _⟩) (fun r1 I2 H locs hpo hH => ?_)
      have hq := hq r1 I2 hpo
      refine lv_i2l hx hb dX6_digest_132 rfl ?_
      refine lv_ladd hx hb dX6_digest_133 ?_
      refine lv_lmul hx hb dX6_digest_134 ?_
      refine lv_aload_n hx hb dX6_digest_135 rfl (lv_at hl 0 rfl) ?_
      refine lv_iload_n hx hb dX6_digest_136 rfl (lv_at hl 2 rfl) ?_
      refine lv_iconst (v := 1) hx hb dX6_digest_137 (by decide) ?_
      obtain ⟨hp, hq⟩ := hq
      refine w_cI hH (w_rV (As := [.int v3, .int (1 : Int32)]) (rest := [.long ((31 : Int64) * (((31 : Int64) * v1) + (r1).toInt64))]) hX hK hE hH (c_X6_rightIf  _ _ _ hp) ck6 sh111 q5_139 q5_141 qs64 q1_7 q5_142 hd_X6_rightIf ⟨Nat.le_of_ble_eq_true rfl, Nat.le_of_ble_eq_true rfl⟩ ⟨rfl, rfl⟩ rfl hl.1 rfl (Nat.le_of_ble_eq_true rfl) dX6_digest_138 ⟨Nat.zero_le _, Nat.zero_le _⟩) (fun r3 I4 H locs hpo hH => ?_)
      have hq := hq r3 I4 hpo
      refine lv_i2l hx hb dX6_digest_141 rfl ?_
      refine lv_ladd hx hb dX6_digest_142 ?_
      refine lv_lstore_n (lv' := [(1, .long (((31 : Int64) * (((31 : Int64) * v1) + (r1).toInt64)) + (r3).toInt64)), (0, .ref (b + 111)), (3, .int v3), (4, .int v4)]) hx hb dX6_digest_143 rfl hl (by decide) rfl (fun ls hl => ?_)
      refine lv_iinc (v := (v3 + (1 : Int32))) (lv' := [(3, .int (v3 + (1 : Int32))), (1, .long (((31 : Int64) * (((31 : Int64) * v1) + (r1).toInt64)) + (r3).toInt64)), (0, .ref (b + 111)), (4, .int v4)]) hx hb dX6_digest_144 hl (k := 2) rfl rfl (by decide) rfl (fun ls hl => ?_)
      refine lv_goto (tgt := 82) hx hb dX6_digest_147 (by decide) ?_
      exact hK82 (((31 : Int64) * (((31 : Int64) * v1) + (r1).toInt64)) + (r3).toInt64) (v3 + (1 : Int32)) _ _ _ _ hq hH (lv_sub hl [2, 1, 0] rfl)
    · have hq := hq.2 hc
      refine lv_ldc2 hx hb hown (hts _ q5_166) dX6_digest_97 ?_
      refine lv_lload_n hx hb dX6_digest_100 rfl (lv_at hl 1 rfl) ?_
      refine lv_lmul hx hb dX6_digest_101 ?_
      refine lv_aload_n hx hb dX6_digest_102 rfl (lv_at hl 0 rfl) ?_
      refine lv_iload_n hx hb dX6_digest_103 rfl (lv_at hl 2 rfl) ?_
      refine lv_iload hx hb dX6_digest_104 (lv_at hl 3 rfl) ?_
      obtain ⟨hp, hq⟩ := hq
      refine w_cI hH (w_rV (As := [.int v3, .int v4]) (rest := [.long ((31 : Int64) * v1)]) hX hK hE hH (c_X6_keyNow  _ _ _ hp) ck6 sh111 q5_61 q5_63 qs51 q1_7 q5_64 hd_X6_keyNow ⟨Nat.le_of_ble_eq_true rfl, Nat.le_of_ble_eq_true rfl⟩ ⟨rfl, rfl⟩ rfl hl.1 rfl (Nat.le_of_ble_eq_true rfl) dX6_digest_106 ⟨Nat.zero_le _, Nat.zero_le _⟩) (fun r5 I6 H locs hpo hH => ?_)
      have hq := hq r5 I6 hpo
      refine lv_i2l hx hb dX6_digest_109 rfl ?_
      refine lv_ladd hx hb dX6_digest_110 ?_
      refine lv_lstore_n (lv' := [(1, .long (((31 : Int64) * v1) + (r5).toInt64)), (0, .ref (b + 111)), (3, .int v3), (4, .int v4)]) hx hb dX6_digest_111 rfl hl (by decide) rfl (fun ls hl => ?_)
      refine lv_iinc (v := (v4 + (1 : Int32))) (lv' := [(4, .int (v4 + (1 : Int32))), (1, .long (((31 : Int64) * v1) + (r5).toInt64)), (0, .ref (b + 111)), (3, .int v3)]) hx hb dX6_digest_112 hl (k := 3) rfl rfl (by decide) rfl (fun ls hl => ?_)
      refine lv_goto (tgt := 90) hx hb dX6_digest_115 (by decide) ?_
      exact hK90 (((31 : Int64) * v1) + (r5).toInt64) v3 (v4 + (1 : Int32)) _ _ _ _ hq hH (lv_sub hl [2, 1, 3, 0] rfl)
set_option maxRecDepth 100000 in
set_option maxHeartbeats 4000000 in
theorem s_X6_digest_82 {Q : Int64 → wI → Prop} (C0 : wCx p m c s args meth cX6_digest 5 RX6 (some .long) D cs ad b) : ∀ (f : Nat) (v1 : Int64) (v3 : Int32) (I : wI) (H : Heap) (locs : List Loc) (ls : Array Slot), v_X6_digest_82 Q f v1 v3 I → wH D cs b G I s H locs → lv_has ls 5 [(0, .ref (b + 111)), (1, .long v1), (3, .int v3)] → W p l e rm_X6_digest s m args below meth c H locs 0 0 (MQ below (va_Ql (Q) (wPo D cs b G) (fun q => b ≤ q)) args s 0 0 (fun q => b ≤ q)) (F0 m 82 ls []) := by
  obtain ⟨hX, hr, hlk, hK, hE⟩ := id C0
  have hx := hX.1
  have hb := hX.2.1
  have hown := hX.2.2.2.1
  have hts := hX.2.2.2.2
  intro f
  induction f with
  | zero =>
    intro v1 v3 I H locs ls hq
    exact hq.elim
  | succ f hK82 =>
    intro v1 v3 I H locs ls hq hH hl
    have hq : g_X6_digest_82 Q (v_X6_digest_82 Q f) v1 v3 I := hq
    unfold g_X6_digest_82 at hq
    refine lv_iload_n hx hb dX6_digest_82 rfl (lv_at hl 2 rfl) ?_
    refine lv_iconst (v := 5) hx hb dX6_digest_83 (by decide) ?_
    refine lv_icmp_ge (tgt := 150) hx hb dX6_digest_84 (by decide) (fun hc => ?_) (fun hc => ?_)
    · have hq := hq.1 hc
      refine lv_iconst (v := 0) hx hb dX6_digest_150 (by decide) ?_
      refine lv_istore_n (lv' := [(3, .int (0 : Int32)), (0, .ref (b + 111)), (1, .long v1)]) hx hb dX6_digest_151 rfl hl (by decide) rfl (fun ls hl => ?_)
      obtain ⟨f, hq⟩ := hq
      exact s_X6_digest_152  C0  f v1 (0 : Int32) _ _ _ _ hq hH (lv_sub hl [1, 2, 0] rfl)
    · have hq := hq.2 hc
      refine lv_iconst (v := 0) hx hb dX6_digest_87 (by decide) ?_
      refine lv_istore (lv' := [(4, .int (0 : Int32)), (0, .ref (b + 111)), (1, .long v1), (3, .int v3)]) hx hb dX6_digest_88 hl (by decide) rfl (fun ls hl => ?_)
      obtain ⟨f, hq⟩ := hq
      exact s_X6_digest_90  C0 hK82 f v1 v3 (0 : Int32) _ _ _ _ hq hH (lv_sub hl [1, 2, 3, 0] rfl)
set_option maxRecDepth 100000 in
set_option maxHeartbeats 4000000 in
theorem s_X6_digest_47 {Q : Int64 → wI → Prop} {K38 : Int64 → Int32 → wI → Prop} (C0 : wCx p m c s args meth cX6_digest 5 RX6 (some .long) D cs ad b) (hK38 : ∀ (v1 : Int64) (v3 : Int32) (I : wI) (H : Heap) (locs : List Loc) (ls : Array Slot), K38 v1 v3 I → wH D cs b G I s H locs → lv_has ls 5 [(0, .ref (b + 111)), (1, .long v1), (3, .int v3)] → W p l e rm_X6_digest s m args below meth c H locs 0 0 (MQ below (va_Ql (Q) (wPo D cs b G) (fun q => b ≤ q)) args s 0 0 (fun q => b ≤ q)) (F0 m 38 ls [])) : ∀ (f : Nat) (v1 : Int64) (v3 : Int32) (v4 : Int32) (I : wI) (H : Heap) (locs : List Loc) (ls : Array Slot), v_X6_digest_47 Q K38 f v1 v3 v4 I → wH D cs b G I s H locs → lv_has ls 5 [(0, .ref (b + 111)), (1, .long v1), (3, .int v3), (4, .int v4)] → W p l e rm_X6_digest s m args below meth c H locs 0 0 (MQ below (va_Ql (Q) (wPo D cs b G) (fun q => b ≤ q)) args s 0 0 (fun q => b ≤ q)) (F0 m 47 ls []) := by
  obtain ⟨hX, hr, hlk, hK, hE⟩ := id C0
  have hx := hX.1
  have hb := hX.2.1
  have hown := hX.2.2.2.1
  have hts := hX.2.2.2.2
  intro f
  induction f with
  | zero =>
    intro v1 v3 v4 I H locs ls hq
    exact hq.elim
  | succ f hK47 =>
    intro v1 v3 v4 I H locs ls hq hH hl
    have hq : g_X6_digest_47 Q K38 (v_X6_digest_47 Q K38 f) v1 v3 v4 I := hq
    unfold g_X6_digest_47 at hq
    refine lv_iload hx hb dX6_digest_47 (lv_at hl 3 rfl) ?_
    refine lv_iconst (v := 5) hx hb dX6_digest_49 (by decide) ?_
    refine lv_icmp_ge (tgt := 74) hx hb dX6_digest_50 (by decide) (fun hc => ?_) (fun hc => ?_)
    · have hq := hq.1 hc
      refine lv_iinc (v := (v3 + (1 : Int32))) (lv' := [(3, .int (v3 + (1 : Int32))), (0, .ref (b + 111)), (1, .long v1), (4, .int v4)]) hx hb dX6_digest_74 hl (k := 2) rfl rfl (by decide) rfl (fun ls hl => ?_)
      refine lv_goto (tgt := 38) hx hb dX6_digest_77 (by decide) ?_
      exact hK38 v1 (v3 + (1 : Int32)) _ _ _ _ hq hH (lv_sub hl [1, 2, 0] rfl)
    · have hq := hq.2 hc
      refine lv_ldc2 hx hb hown (hts _ q5_166) dX6_digest_53 ?_
      refine lv_lload_n hx hb dX6_digest_56 rfl (lv_at hl 1 rfl) ?_
      refine lv_lmul hx hb dX6_digest_57 ?_
      refine lv_aload_n hx hb dX6_digest_58 rfl (lv_at hl 0 rfl) ?_
      refine lv_iload_n hx hb dX6_digest_59 rfl (lv_at hl 2 rfl) ?_
      refine lv_iload hx hb dX6_digest_60 (lv_at hl 3 rfl) ?_
      obtain ⟨hp, hq⟩ := hq
      refine w_cIp hH (w_rV (As := [.int v3, .int v4]) (rest := [.long ((31 : Int64) * v1)]) hX hK hE hH (c_X6_atNow  _ _ _ hp) ck6 sh111 q5_49 q5_51 qs49 q1_7 q5_52 hd_X6_atNow ⟨Nat.le_of_ble_eq_true rfl, Nat.le_of_ble_eq_true rfl⟩ ⟨rfl, rfl⟩ rfl hl.1 rfl (Nat.le_of_ble_eq_true rfl) dX6_digest_62 ⟨Nat.zero_le _, Nat.zero_le _⟩) (fun r1  H locs hpo hH => ?_)
      have hq := hq r1  hpo
      refine lv_i2l hx hb dX6_digest_65 rfl ?_
      refine lv_ladd hx hb dX6_digest_66 ?_
      refine lv_lstore_n (lv' := [(1, .long (((31 : Int64) * v1) + (r1).toInt64)), (0, .ref (b + 111)), (3, .int v3), (4, .int v4)]) hx hb dX6_digest_67 rfl hl (by decide) rfl (fun ls hl => ?_)
      refine lv_iinc (v := (v4 + (1 : Int32))) (lv' := [(4, .int (v4 + (1 : Int32))), (1, .long (((31 : Int64) * v1) + (r1).toInt64)), (0, .ref (b + 111)), (3, .int v3)]) hx hb dX6_digest_68 hl (k := 3) rfl rfl (by decide) rfl (fun ls hl => ?_)
      refine lv_goto (tgt := 47) hx hb dX6_digest_71 (by decide) ?_
      exact hK47 (((31 : Int64) * v1) + (r1).toInt64) v3 (v4 + (1 : Int32)) _ _ _ _ hq hH (lv_sub hl [2, 1, 3, 0] rfl)
set_option maxRecDepth 100000 in
set_option maxHeartbeats 4000000 in
theorem s_X6_digest_38 {Q : Int64 → wI → Prop} (C0 : wCx p m c s args meth cX6_digest 5 RX6 (some .long) D cs ad b) : ∀ (f : Nat) (v1 : Int64) (v3 : Int32) (I : wI) (H : Heap) (locs : List Loc) (ls : Array Slot), v_X6_digest_38 Q f v1 v3 I → wH D cs b G I s H locs → lv_has ls 5 [(0, .ref (b + 111)), (1, .long v1), (3, .int v3)] → W p l e rm_X6_digest s m args below meth c H locs 0 0 (MQ below (va_Ql (Q) (wPo D cs b G) (fun q => b ≤ q)) args s 0 0 (fun q => b ≤ q)) (F0 m 38 ls []) := by
  obtain ⟨hX, hr, hlk, hK, hE⟩ := id C0
  have hx := hX.1
  have hb := hX.2.1
  have hown := hX.2.2.2.1
  have hts := hX.2.2.2.2
  intro f
  induction f with
  | zero =>
    intro v1 v3 I H locs ls hq
    exact hq.elim
  | succ f hK38 =>
    intro v1 v3 I H locs ls hq hH hl
    have hq : g_X6_digest_38 Q (v_X6_digest_38 Q f) v1 v3 I := hq
    unfold g_X6_digest_38 at hq
    refine lv_iload_n hx hb dX6_digest_38 rfl (lv_at hl 2 rfl) ?_
    refine lv_bipush (v := 6) hx hb dX6_digest_39 (by decide) ?_
    refine lv_icmp_ge (tgt := 80) hx hb dX6_digest_41 (by decide) (fun hc => ?_) (fun hc => ?_)
    · have hq := hq.1 hc
      refine lv_iconst (v := 0) hx hb dX6_digest_80 (by decide) ?_
      refine lv_istore_n (lv' := [(3, .int (0 : Int32)), (0, .ref (b + 111)), (1, .long v1)]) hx hb dX6_digest_81 rfl hl (by decide) rfl (fun ls hl => ?_)
      obtain ⟨f, hq⟩ := hq
      exact s_X6_digest_82  C0  f v1 (0 : Int32) _ _ _ _ hq hH (lv_sub hl [1, 2, 0] rfl)
    · have hq := hq.2 hc
      refine lv_iconst (v := 0) hx hb dX6_digest_44 (by decide) ?_
      refine lv_istore (lv' := [(4, .int (0 : Int32)), (0, .ref (b + 111)), (1, .long v1), (3, .int v3)]) hx hb dX6_digest_45 hl (by decide) rfl (fun ls hl => ?_)
      obtain ⟨f, hq⟩ := hq
      exact s_X6_digest_47  C0 hK38 f v1 v3 (0 : Int32) _ _ _ _ hq hH (lv_sub hl [1, 2, 3, 0] rfl)
set_option maxRecDepth 100000 in
set_option maxHeartbeats 4000000 in
theorem s_X6_digest_11 {Q : Int64 → wI → Prop} (C0 : wCx p m c s args meth cX6_digest 5 RX6 (some .long) D cs ad b) : ∀ (f : Nat) (v1 : Int64) (v3 : Int32) (I : wI) (H : Heap) (locs : List Loc) (ls : Array Slot), v_X6_digest_11 Q f v1 v3 I → wH D cs b G I s H locs → lv_has ls 5 [(0, .ref (b + 111)), (1, .long v1), (3, .int v3)] → W p l e rm_X6_digest s m args below meth c H locs 0 0 (MQ below (va_Ql (Q) (wPo D cs b G) (fun q => b ≤ q)) args s 0 0 (fun q => b ≤ q)) (F0 m 11 ls []) := by
  obtain ⟨hX, hr, hlk, hK, hE⟩ := id C0
  have hx := hX.1
  have hb := hX.2.1
  have hown := hX.2.2.2.1
  have hts := hX.2.2.2.2
  intro f
  induction f with
  | zero =>
    intro v1 v3 I H locs ls hq
    exact hq.elim
  | succ f hK11 =>
    intro v1 v3 I H locs ls hq hH hl
    have hq : g_X6_digest_11 Q (v_X6_digest_11 Q f) v1 v3 I := hq
    unfold g_X6_digest_11 at hq
    refine lv_iload_n hx hb dX6_digest_11 rfl (lv_at hl 2 rfl) ?_
    refine lv_bipush (v := 10) hx hb dX6_digest_12 (by decide) ?_
    refine lv_icmp_ge (tgt := 36) hx hb dX6_digest_14 (by decide) (fun hc => ?_) (fun hc => ?_)
    · have hq := hq.1 hc
      refine lv_iconst (v := 0) hx hb dX6_digest_36 (by decide) ?_
      refine lv_istore_n (lv' := [(3, .int (0 : Int32)), (0, .ref (b + 111)), (1, .long v1)]) hx hb dX6_digest_37 rfl hl (by decide) rfl (fun ls hl => ?_)
      obtain ⟨f, hq⟩ := hq
      exact s_X6_digest_38  C0  f v1 (0 : Int32) _ _ _ _ hq hH (lv_sub hl [1, 2, 0] rfl)
    · have hq := hq.2 hc
      refine lv_ldc2 hx hb hown (hts _ q5_166) dX6_digest_17 ?_
      refine lv_lload_n hx hb dX6_digest_20 rfl (lv_at hl 1 rfl) ?_
      refine lv_lmul hx hb dX6_digest_21 ?_
      refine lv_aload_n hx hb dX6_digest_22 rfl (lv_at hl 0 rfl) ?_
      refine lv_iload_n hx hb dX6_digest_23 rfl (lv_at hl 2 rfl) ?_
      obtain ⟨hp, hq⟩ := hq
      refine w_cIp hH (w_rV (As := [.int v3]) (rest := [.long ((31 : Int64) * v1)]) hX hK hE hH (c_X6_countNow  _ _ hp) ck6 sh111 q5_112 q5_114 qs60 q1_7 q5_115 hd_X6_countNow ⟨Nat.le_of_ble_eq_true rfl, Nat.le_of_ble_eq_true rfl⟩ ⟨rfl, rfl⟩ rfl hl.1 rfl (Nat.le_of_ble_eq_true rfl) dX6_digest_24 ⟨Nat.zero_le _, Nat.zero_le _⟩) (fun r1  H locs hpo hH => ?_)
      have hq := hq r1  hpo
      refine lv_i2l hx hb dX6_digest_27 rfl ?_
      refine lv_ladd hx hb dX6_digest_28 ?_
      refine lv_lstore_n (lv' := [(1, .long (((31 : Int64) * v1) + (r1).toInt64)), (0, .ref (b + 111)), (3, .int v3)]) hx hb dX6_digest_29 rfl hl (by decide) rfl (fun ls hl => ?_)
      refine lv_iinc (v := (v3 + (1 : Int32))) (lv' := [(3, .int (v3 + (1 : Int32))), (1, .long (((31 : Int64) * v1) + (r1).toInt64)), (0, .ref (b + 111))]) hx hb dX6_digest_30 hl (k := 2) rfl rfl (by decide) rfl (fun ls hl => ?_)
      refine lv_goto (tgt := 11) hx hb dX6_digest_33 (by decide) ?_
      exact hK11 (((31 : Int64) * v1) + (r1).toInt64) (v3 + (1 : Int32)) _ _ _ _ hq hH (lv_sub hl [2, 1, 0] rfl)
set_option maxRecDepth 100000 in
set_option maxHeartbeats 4000000 in
theorem c_X6_digest {l : Launch} {D : va_G} {cs : wC4} {ad : Nat → Nat} {b : Nat} {G : wG}  (I : wI) (hp : pre_X6_digest  I) : Met l yX6_digest (ws_ yX6_digest cX6_digest 5 (some .long)) rm_X6_digest (va_Pc [.ref (b + 111)] (wPr D cs ad b G I)) (va_Ql (fun r I' => post_X6_digest  I r I') (wPo D cs b G) (fun q => b ≤ q)) 0 0 (fun q => b ≤ q) := by
  have hq := vc_X6_digest  I hp
  refine w_met (by decide) (Nat.le_of_ble_eq_true rfl) ?_
  intro p e s m below meth c hX hr hlk hK hE hH ls hl
  have C0 : wCx p m c s _ meth cX6_digest 5 RX6 (some .long) D cs ad b := ⟨hX, hr, hlk, hK, hE⟩
  have hX : CallFix p m c cX6_digest 5 s _ lw_all RX6 := hX
  have hx := hX.1
  have hb := hX.2.1
  have hown := hX.2.2.2.1
  have hts := hX.2.2.2.2
  have hl : lv_has ls 5 [(0, .ref (b + 111))] := hl
  unfold v_X6_digest at hq
  refine lv_aload_n hx hb dX6_digest_0 rfl (lv_at hl 0 rfl) ?_
  refine lv_iconst (v := 0) hx hb dX6_digest_1 (by decide) ?_
  refine w_puti hX hK hH ck6 sh111 0 fw6_0 q4_73 dX6_digest_2 (fun I1 H locs hI hH => ?_)
  have hq := hq I1 hI
  refine lv_ldc2 hx hb hown (hts _ q5_165) dX6_digest_5 ?_
  refine lv_lstore_n (lv' := [(1, .long (3769 : Int64)), (0, .ref (b + 111))]) hx hb dX6_digest_8 rfl hl (by decide) rfl (fun ls hl => ?_)
  refine lv_iconst (v := 0) hx hb dX6_digest_9 (by decide) ?_
  refine lv_istore_n (lv' := [(3, .int (0 : Int32)), (1, .long (3769 : Int64)), (0, .ref (b + 111))]) hx hb dX6_digest_10 rfl hl (by decide) rfl (fun ls hl => ?_)
  obtain ⟨f, hq⟩ := hq
  exact s_X6_digest_11  C0  f (3769 : Int64) (0 : Int32) _ _ _ _ hq hH (lv_sub hl [2, 1, 0] rfl)
end
