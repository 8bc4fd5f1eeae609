section
variable {p : Program} {l : Launch} {e : Env} {s : State} {m : MethodId} {args : Array Value} {below : List Frame} {meth : Method} {c : Code} {D : va_G} {cs : wC4} {ad : Nat → Nat} {b : Nat} {G : wG}
abbrev rm_X4_addOpposite : Room := { frames := 2, cells := 0, slots := 0, locals := 41 }
theorem hd_X4_addOpposite : yX4_addOpposite.cls = RX4 ∧ yX4_addOpposite.cls ≠ "java/lang/invoke/MethodHandle" ∧ yX4_addOpposite.cls ≠ "java/lang/invoke/VarHandle" ∧ (parseMethodDescriptor yX4_addOpposite.desc).map (fun d => d.parameters.length) = some 3 := by decide +kernel
set_option maxRecDepth 100000 in
set_option maxHeartbeats 4000000 in
theorem s_X4_addOpposite_87 {k : Nat} {x1 : Int32} {x2 : Int32} {x3 : Int32} {Q : wI → Prop} (hs : wSh k = (0, 4)) (C0 : wCx p m c s args meth cX4_addOpposite 6 RX4 none D cs ad b) : ∀ (v4 : Int32) (I : wI) (H : Heap) (locs : List Loc) (ls : Array Slot), v_X4_addOpposite_87 k x1 x2 x3 Q v4 I → wH D cs b G I s H locs → lv_has ls 6 [(0, .ref (b + k)), (4, .int v4)] → W p l e rm_X4_addOpposite s m args below meth c H locs 0 0 (MQ below (va_Qv (Q) (wPo D cs b G) (fun q => b ≤ q)) args s 0 0 (fun q => b ≤ q)) (F0 m 87 ls []) := by
  obtain ⟨hX, hr, hlk, hK, hE⟩ := id C0
  have hx := hX.1
  have hb := hX.2.1
  have hown := hX.2.2.2.1
  have hts := hX.2.2.2.2
  intro v4 I H locs ls hq hH hl
  unfold v_X4_addOpposite_87 at hq
  refine lv_aload_n hx hb dX4_addOpposite_87 rfl (lv_at hl 0 rfl) ?_
  refine lv_iload hx hb dX4_addOpposite_88 (lv_at hl 1 rfl) ?_
  refine w_puti hX hK hH ck4 hs 3 fw4_3 q1_110 dX4_addOpposite_90 (fun I1 H locs hI hH => ?_)
  have hq := hq I1 hI
  exact w_eV hX hr hlk hH hq dX4_addOpposite_93
set_option maxRecDepth 100000 in
set_option maxHeartbeats 4000000 in
theorem s_X4_addOpposite_52 {k : Nat} {x1 : Int32} {x2 : Int32} {x3 : Int32} {Q : wI → Prop} (hs : wSh k = (0, 4)) (C0 : wCx p m c s args meth cX4_addOpposite 6 RX4 none D cs ad b) : ∀ (f : Nat) (v4 : Int32) (v5 : Int32) (I : wI) (H : Heap) (locs : List Loc) (ls : Array Slot), v_X4_addOpposite_52 k x1 x2 x3 Q f v4 v5 I → wH D cs b G I s H locs → lv_has ls 6 [(0, .ref (b + k)), (2, .int x2), (4, .int v4), (5, .int v5)] → W p l e rm_X4_addOpposite s m args below meth c H locs 0 0 (MQ below (va_Qv (Q) (wPo D cs b G) (fun q => b ≤ q)) args s 0 0 (fun q => b ≤ q)) (F0 m 52 ls []) := by
  obtain ⟨hX, hr, hlk, hK, hE⟩ := id C0
  have hx := hX.1
  have hb := hX.2.1
  have hown := hX.2.2.2.1
  have hts := hX.2.2.2.2
  intro f
  induction f with
  | zero =>
    intro v4 v5 I H locs ls hq
    exact hq.elim
  | succ f hK52 =>
    intro v4 v5 I H locs ls hq hH hl
    have hq : g_X4_addOpposite_52 k x1 x2 x3 Q (v_X4_addOpposite_52 k x1 x2 x3 Q f) v4 v5 I := hq
    unfold g_X4_addOpposite_52 at hq
    refine lv_iload hx hb dX4_addOpposite_52 (lv_at hl 3 rfl) ?_
    refine lv_iload_n hx hb dX4_addOpposite_54 rfl (lv_at hl 1 rfl) ?_
    refine lv_icmp_lt (tgt := 87) hx hb dX4_addOpposite_55 (by decide) (fun hc => ?_) (fun hc => ?_)
    · have hq := hq.1 hc
      exact s_X4_addOpposite_87 hs C0  v4 _ _ _ _ hq hH (lv_sub hl [0, 2] rfl)
    · have hq := hq.2 hc
      refine lv_aload_n hx hb dX4_addOpposite_58 rfl (lv_at hl 0 rfl) ?_
      refine w_geti hX hK hH ck4 hs 3 fi4_3 q1_110 dX4_addOpposite_59 ?_
      refine lv_sipush (v := 500) hx hb dX4_addOpposite_62 (by decide) ?_
      refine lv_icmp_ge (tgt := 87) hx hb dX4_addOpposite_65 (by decide) (fun hc => ?_) (fun hc => ?_)
      · have hq := hq.1 hc
        exact s_X4_addOpposite_87 hs C0  v4 _ _ _ _ hq hH (lv_sub hl [0, 2] rfl)
      · have hq := hq.2 hc
        refine lv_aload_n hx hb dX4_addOpposite_68 rfl (lv_at hl 0 rfl) ?_
        refine lv_aload_n hx hb dX4_addOpposite_69 rfl (lv_at hl 0 rfl) ?_
        refine lv_iload hx hb dX4_addOpposite_70 (lv_at hl 3 rfl) ?_
        obtain ⟨hp, hq⟩ := hq
        refine w_cIp hH (w_rV (As := [.int v5]) (rest := [.ref (b + k)]) hX hK hE hH (c_X4_moveAt hs _ _ hp) ck4 hs q2_45 q2_46 q2_47 q1_5 q2_48 hd_X4_moveAt ⟨Nat.le_of_ble_eq_true rfl, Nat.le_of_ble_eq_true rfl⟩ ⟨rfl, rfl⟩ rfl hl.1 rfl (Nat.le_of_ble_eq_true rfl) dX4_addOpposite_72 ⟨Nat.zero_le _, Nat.zero_le _⟩) (fun r1  H locs hpo hH => ?_)
        have hq := hq r1  hpo
        obtain ⟨hp, hq⟩ := hq
        refine w_cIp hH (w_rSN (As := [.int r1]) (rest := [.ref (b + k)]) hX hK hE hH (c_X5_opposite  _ _ hp) qn2_72 q2_73 q1_1 q2_74 hd_X5_opposite.2 ⟨Nat.le_of_ble_eq_true rfl, Nat.le_of_ble_eq_true rfl⟩ ⟨rfl, rfl⟩ rfl hl.1 rfl (Nat.le_of_ble_eq_true rfl) dX4_addOpposite_75 ⟨Nat.zero_le _, Nat.zero_le _⟩) (fun r2  H locs hpo hH => ?_)
        have hq := hq r2  hpo
        obtain ⟨hp, hq⟩ := hq
        refine w_cV hH (w_rV (As := [.int r2]) (rest := []) hX hK hE hH (c_X4_addMove hs _ _ hp) ck4 hs q2_49 q2_51 qs6 q1_5 q2_52 hd_X4_addMove ⟨Nat.le_of_ble_eq_true rfl, Nat.le_of_ble_eq_true rfl⟩ ⟨rfl, rfl⟩ rfl hl.1 rfl (Nat.le_of_ble_eq_true rfl) dX4_addOpposite_78 ⟨Nat.zero_le _, Nat.zero_le _⟩) (fun  I3 H locs hpo hH => ?_)
        have hq := hq  I3 hpo
        refine lv_iinc (v := (v5 + (-1 : Int32))) (lv' := [(5, .int (v5 + (-1 : Int32))), (0, .ref (b + k)), (2, .int x2), (4, .int v4)]) hx hb dX4_addOpposite_81 hl (k := 3) rfl rfl (by decide) rfl (fun ls hl => ?_)
        refine lv_goto (tgt := 52) hx hb dX4_addOpposite_84 (by decide) ?_
        exact hK52 v4 (v5 + (-1 : Int32)) _ _ _ _ hq hH (lv_sub hl [1, 2, 3, 0] rfl)
set_option maxRecDepth 100000 in
set_option maxHeartbeats 4000000 in
theorem s_X4_addOpposite_47 {k : Nat} {x1 : Int32} {x2 : Int32} {x3 : Int32} {Q : wI → Prop} (hs : wSh k = (0, 4)) (C0 : wCx p m c s args meth cX4_addOpposite 6 RX4 none D cs ad b) : ∀ (v4 : Int32) (I : wI) (H : Heap) (locs : List Loc) (ls : Array Slot), v_X4_addOpposite_47 k x1 x2 x3 Q v4 I → wH D cs b G I s H locs → lv_has ls 6 [(0, .ref (b + k)), (2, .int x2), (3, .int x3), (4, .int v4)] → W p l e rm_X4_addOpposite s m args below meth c H locs 0 0 (MQ below (va_Qv (Q) (wPo D cs b G) (fun q => b ≤ q)) args s 0 0 (fun q => b ≤ q)) (F0 m 47 ls []) := by
  obtain ⟨hX, hr, hlk, hK, hE⟩ := id C0
  have hx := hX.1
  have hb := hX.2.1
  have hown := hX.2.2.2.1
  have hts := hX.2.2.2.2
  intro v4 I H locs ls hq hH hl
  unfold v_X4_addOpposite_47 at hq
  refine lv_iload_n hx hb dX4_addOpposite_47 rfl (lv_at hl 2 rfl) ?_
  refine lv_iconst (v := 1) hx hb dX4_addOpposite_48 (by decide) ?_
  refine lv_isub hx hb dX4_addOpposite_49 ?_
  refine lv_istore (lv' := [(5, .int (x3 - (1 : Int32))), (0, .ref (b + k)), (2, .int x2), (3, .int x3), (4, .int v4)]) hx hb dX4_addOpposite_50 hl (by decide) rfl (fun ls hl => ?_)
  obtain ⟨f, hq⟩ := hq
  exact s_X4_addOpposite_52 hs C0  f v4 (x3 - (1 : Int32)) _ _ _ _ hq hH (lv_sub hl [1, 2, 4, 0] rfl)
set_option maxRecDepth 100000 in
set_option maxHeartbeats 4000000 in
theorem s_X4_addOpposite_12 {k : Nat} {x1 : Int32} {x2 : Int32} {x3 : Int32} {Q : wI → Prop} (hs : wSh k = (0, 4)) (C0 : wCx p m c s args meth cX4_addOpposite 6 RX4 none D cs ad b) : ∀ (f : Nat) (v4 : Int32) (v5 : Int32) (I : wI) (H : Heap) (locs : List Loc) (ls : Array Slot), v_X4_addOpposite_12 k x1 x2 x3 Q f v4 v5 I → wH D cs b G I s H locs → lv_has ls 6 [(0, .ref (b + k)), (1, .int x1), (2, .int x2), (3, .int x3), (4, .int v4), (5, .int v5)] → W p l e rm_X4_addOpposite s m args below meth c H locs 0 0 (MQ below (va_Qv (Q) (wPo D cs b G) (fun q => b ≤ q)) args s 0 0 (fun q => b ≤ q)) (F0 m 12 ls []) := by
  obtain ⟨hX, hr, hlk, hK, hE⟩ := id C0
  have hx := hX.1
  have hb := hX.2.1
  have hown := hX.2.2.2.1
  have hts := hX.2.2.2.2
  intro f
  induction f with
  | zero =>
    intro v4 v5 I H locs ls hq
    exact hq.elim
  | succ f hK12 =>
    intro v4 v5 I H locs ls hq hH hl
    have hq : g_X4_addOpposite_12 k x1 x2 x3 Q (v_X4_addOpposite_12 k x1 x2 x3 Q f) v4 v5 I := hq
    unfold g_X4_addOpposite_12 at hq
    refine lv_iload hx hb dX4_addOpposite_12 (lv_at hl 5 rfl) ?_
    refine lv_iload_n hx hb dX4_addOpposite_14 rfl (lv_at hl 1 rfl) ?_
    refine lv_icmp_lt (tgt := 47) hx hb dX4_addOpposite_15 (by decide) (fun hc => ?_) (fun hc => ?_)
    · have hq := hq.1 hc
      exact s_X4_addOpposite_47 hs C0  v4 _ _ _ _ hq hH (lv_sub hl [0, 2, 3, 4] rfl)
    · have hq := hq.2 hc
      refine lv_aload_n hx hb dX4_addOpposite_18 rfl (lv_at hl 0 rfl) ?_
      refine w_geti hX hK hH ck4 hs 3 fi4_3 q1_110 dX4_addOpposite_19 ?_
      refine lv_sipush (v := 500) hx hb dX4_addOpposite_22 (by decide) ?_
      refine lv_icmp_ge (tgt := 47) hx hb dX4_addOpposite_25 (by decide) (fun hc => ?_) (fun hc => ?_)
      · have hq := hq.1 hc
        exact s_X4_addOpposite_47 hs C0  v4 _ _ _ _ hq hH (lv_sub hl [0, 2, 3, 4] rfl)
      · have hq := hq.2 hc
        refine lv_aload_n hx hb dX4_addOpposite_28 rfl (lv_at hl 0 rfl) ?_
        refine lv_aload_n hx hb dX4_addOpposite_29 rfl (lv_at hl 0 rfl) ?_
        refine lv_iload hx hb dX4_addOpposite_30 (lv_at hl 5 rfl) ?_
        obtain ⟨hp, hq⟩ := hq
        refine w_cIp hH (w_rV (As := [.int v5]) (rest := [.ref (b + k)]) hX hK hE hH (c_X4_moveAt hs _ _ hp) ck4 hs q2_45 q2_46 q2_47 q1_5 q2_48 hd_X4_moveAt ⟨Nat.le_of_ble_eq_true rfl, Nat.le_of_ble_eq_true rfl⟩ ⟨rfl, rfl⟩ rfl hl.1 rfl (Nat.le_of_ble_eq_true rfl) dX4_addOpposite_32 ⟨Nat.zero_le _, Nat.zero_le _⟩) (fun r1  H locs hpo hH => ?_)
        have hq := hq r1  hpo
        obtain ⟨hp, hq⟩ := hq
        refine w_cIp hH (w_rSN (As := [.int r1]) (rest := [.ref (b + k)]) hX hK hE hH (c_X5_opposite  _ _ hp) qn2_72 q2_73 q1_1 q2_74 hd_X5_opposite.2 ⟨Nat.le_of_ble_eq_true rfl, Nat.le_of_ble_eq_true rfl⟩ ⟨rfl, rfl⟩ rfl hl.1 rfl (Nat.le_of_ble_eq_true rfl) dX4_addOpposite_35 ⟨Nat.zero_le _, Nat.zero_le _⟩) (fun r2  H locs hpo hH => ?_)
        have hq := hq r2  hpo
        obtain ⟨hp, hq⟩ := hq
        refine w_cV hH (w_rV (As := [.int r2]) (rest := []) hX hK hE hH (c_X4_addMove hs _ _ hp) ck4 hs q2_49 q2_51 qs6 q1_5 q2_52 hd_X4_addMove ⟨Nat.le_of_ble_eq_true rfl, Nat.le_of_ble_eq_true rfl⟩ ⟨rfl, rfl⟩ rfl hl.1 rfl (Nat.le_of_ble_eq_true rfl) dX4_addOpposite_38 ⟨Nat.zero_le _, Nat.zero_le _⟩) (fun  I3 H locs hpo hH => ?_)
        have hq := hq  I3 hpo
        refine lv_iinc (v := (v5 + (-1 : Int32))) (lv' := [(5, .int (v5 + (-1 : Int32))), (0, .ref (b + k)), (1, .int x1), (2, .int x2), (3, .int x3), (4, .int v4)]) hx hb dX4_addOpposite_41 hl (k := 5) rfl rfl (by decide) rfl (fun ls hl => ?_)
        refine lv_goto (tgt := 12) hx hb dX4_addOpposite_44 (by decide) ?_
        exact hK12 v4 (v5 + (-1 : Int32)) _ _ _ _ hq hH (lv_sub hl [1, 2, 3, 4, 5, 0] rfl)
set_option maxRecDepth 100000 in
set_option maxHeartbeats 4000000 in
theorem c_X4_addOpposite {l : Launch} {D : va_G} {cs : wC4} {ad : Nat → Nat} {b : Nat} {G : wG} {k : Nat} (hs : wSh k = (0, 4)) (x1 : Int32) (x2 : Int32) (x3 : Int32) (I : wI) (hp : pre_X4_addOpposite k x1 x2 x3 I) : Met l yX4_addOpposite (ws_ yX4_addOpposite cX4_addOpposite 6 none) rm_X4_addOpposite (va_Pc [.ref (b + k), .int x1, .int x2, .int x3] (wPr D cs ad b G I)) (va_Qv (fun I' => post_X4_addOpposite k x1 x2 x3 I I') (wPo D cs b G) (fun q => b ≤ q)) 0 0 (fun q => b ≤ q) := by
  have hq := vc_X4_addOpposite k x1 x2 x3 I hp
  refine w_met (by decide) (Nat.le_of_ble_eq_true rfl) ?_
  intro p e s m below meth c hX hr hlk hK hE hH ls hl
  have C0 : wCx p m c s _ meth cX4_addOpposite 6 RX4 none D cs ad b := ⟨hX, hr, hlk, hK, hE⟩
  have hX : CallFix p m c cX4_addOpposite 6 s _ lw_all RX4 := hX
  have hx := hX.1
  have hb := hX.2.1
  have hown := hX.2.2.2.1
  have hts := hX.2.2.2.2
  have hl : lv_has ls 6 [(0, .ref (b + k)), (1, .int x1), (2, .int x2), (3, .int x3)] := hl
  unfold v_X4_addOpposite at hq
  refine lv_iload_n hx hb dX4_addOpposite_0 rfl (lv_at hl 3 rfl) ?_
  refine lv_iload_n hx hb dX4_addOpposite_1 rfl (lv_at hl 3 rfl) ?_
  refine lv_iadd hx hb dX4_addOpposite_2 ?_
  refine lv_iload_n hx hb dX4_addOpposite_3 rfl (lv_at hl 1 rfl) ?_
  refine lv_isub hx hb dX4_addOpposite_4 ?_
  refine lv_istore (lv' := [(4, .int ((x3 + x3) - x1)), (0, .ref (b + k)), (1, .int x1), (2, .int x2), (3, .int x3)]) hx hb dX4_addOpposite_5 hl (by decide) rfl (fun ls hl => ?_)
  refine lv_iload_n hx hb dX4_addOpposite_7 rfl (lv_at hl 3 rfl) ?_
  refine lv_iconst (v := 1) hx hb dX4_addOpposite_8 (by decide) ?_
  refine lv_isub hx hb dX4_addOpposite_9 ?_
  refine lv_istore (lv' := [(5, .int (x2 - (1 : Int32))), (4, .int ((x3 + x3) - x1)), (0, .ref (b + k)), (1, .int x1), (2, .int x2), (3, .int x3)]) hx hb dX4_addOpposite_10 hl (by decide) rfl (fun ls hl => ?_)
  obtain ⟨f, hq⟩ := hq
  exact s_X4_addOpposite_12 hs C0  f ((x3 + x3) - x1) (x2 - (1 : Int32)) _ _ _ _ hq hH (lv_sub hl [2, 3, 4, 5, 1, 0] rfl)
abbrev rm_X4_takesInBracket : Room := { frames := 3, cells := 0, slots := 0, locals := 66 }
theorem hd_X4_takesInBracket : yX4_takesInBracket.cls = RX4 ∧ yX4_takesInBracket.cls ≠ "java/lang/invoke/MethodHandle" ∧ yX4_takesInBracket.cls ≠ "java/lang/invoke/VarHandle" ∧ (parseMethodDescriptor yX4_takesInBracket.desc).map (fun d => d.parameters.length) = some 1 := by decide +kernel
set_option maxRecDepth 100000 in
set_option maxHeartbeats 4000000 in
theorem s_X4_takesInBracket_123 {k : Nat} {x1 : Int32} {Q : Int32 → wI → Prop} (hs : wSh k = (0, 4)) (C0 : wCx p m c s args meth cX4_takesInBracket 3 RX4 (some .boolean) D cs ad b) : ∀  (I : wI) (H : Heap) (locs : List Loc) (ls : Array Slot), v_X4_takesInBracket_123 k x1 Q  I → wH D cs b G I s H locs → lv_has ls 3 [] → W p l e rm_X4_takesInBracket s m args below meth c H locs 0 0 (MQ below (va_Qi (Q) (wPo D cs b G) (fun q => b ≤ q)) args s 0 0 (fun q => b ≤ q)) (F0 m 123 ls []) := by
  obtain ⟨hX, hr, hlk, hK, hE⟩ := id C0
  have hx := hX.1
  have hb := hX.2.1
  have hown := hX.2.2.2.1
  have hts := hX.2.2.2.2
  intro  I H locs ls hq hH hl
  unfold v_X4_takesInBracket_123 at hq
  refine lv_iconst (v := 0) hx hb dX4_takesInBracket_123 (by decide) ?_
  exact w_eZ (by decide) hX hr hlk hH hq dX4_takesInBracket_124
set_option maxRecDepth 100000 in
set_option maxHeartbeats 4000000 in
theorem s_X4_takesInBracket_80 {k : Nat} {x1 : Int32} {Q : Int32 → wI → Prop} (hs : wSh k = (0, 4)) (C0 : wCx p m c s args meth cX4_takesInBracket 3 RX4 (some .boolean) D cs ad b) : ∀ (v2 : Int32) (I : wI) (H : Heap) (locs : List Loc) (ls : Array Slot), v_X4_takesInBracket_80 k x1 Q v2 I → wH D cs b G I s H locs → lv_has ls 3 [(0, .ref (b + k)), (1, .int x1), (2, .int v2)] → W p l e rm_X4_takesInBracket s m args below meth c H locs 0 0 (MQ below (va_Qi (Q) (wPo D cs b G) (fun q => b ≤ q)) args s 0 0 (fun q => b ≤ q)) (F0 m 80 ls []) := by
  obtain ⟨hX, hr, hlk, hK, hE⟩ := id C0
  have hx := hX.1
  have hb := hX.2.1
  have hown := hX.2.2.2.1
  have hts := hX.2.2.2.2
  intro v2 I H locs ls hq hH hl
  unfold v_X4_takesInBracket_80 at hq
  refine lv_aload_n hx hb dX4_takesInBracket_80 rfl (lv_at hl 0 rfl) ?_
  refine w_getr hX hK hH ck4 hs 5 3 (k + 3) fr4_5 rfl q1_114 dX4_takesInBracket_81 ?_
  refine lv_iload_n hx hb dX4_takesInBracket_84 rfl (lv_at hl 2 rfl) ?_
  obtain ⟨hc, hq⟩ := hq
  refine w_iald hX hK hH (sf4_5 hs) hc dX4_takesInBracket_85 ?_
  refine lv_iconst (v := 2) hx hb dX4_takesInBracket_86 (by decide) ?_
  refine lv_icmp_ne (tgt := 123) hx hb dX4_takesInBracket_87 (by decide) (fun hc => ?_) (fun hc => ?_)
  · have hq := hq.1 hc
    exact s_X4_takesInBracket_123 hs C0   _ _ _ _ hq hH (lv_sub hl [] rfl)
  · have hq := hq.2 hc
    refine lv_iload_n hx hb dX4_takesInBracket_90 rfl (lv_at hl 1 rfl) ?_
    refine lv_bipush (v := 93) hx hb dX4_takesInBracket_91 (by decide) ?_
    refine lv_icmp_ne (tgt := 123) hx hb dX4_takesInBracket_93 (by decide) (fun hc => ?_) (fun hc => ?_)
    · have hq := hq.1 hc
      exact s_X4_takesInBracket_123 hs C0   _ _ _ _ hq hH (lv_sub hl [] rfl)
    · have hq := hq.2 hc
      refine lv_aload_n hx hb dX4_takesInBracket_96 rfl (lv_at hl 0 rfl) ?_
      refine lv_iload_n hx hb dX4_takesInBracket_97 rfl (lv_at hl 2 rfl) ?_
      refine w_puti hX hK hH ck4 hs 8 fw4_8 q1_117 dX4_takesInBracket_98 (fun I1 H locs hI hH => ?_)
      have hq := hq I1 hI
      refine lv_aload_n hx hb dX4_takesInBracket_101 rfl (lv_at hl 0 rfl) ?_
      refine lv_aload_n hx hb dX4_takesInBracket_102 rfl (lv_at hl 0 rfl) ?_
      refine w_getr hX hK hH ck4 hs 6 4 (k + 4) fr4_6 rfl q1_115 dX4_takesInBracket_103 ?_
      refine lv_iload_n hx hb dX4_takesInBracket_106 rfl (lv_at hl 2 rfl) ?_
      obtain ⟨hc, hq⟩ := hq
      refine w_iald hX hK hH (sf4_6 hs) hc dX4_takesInBracket_107 ?_
      refine lv_aload_n hx hb dX4_takesInBracket_108 rfl (lv_at hl 0 rfl) ?_
      refine w_getr hX hK hH ck4 hs 7 5 (k + 5) fr4_7 rfl q1_116 dX4_takesInBracket_109 ?_
      refine lv_iload_n hx hb dX4_takesInBracket_112 rfl (lv_at hl 2 rfl) ?_
      obtain ⟨hc, hq⟩ := hq
      refine w_iald hX hK hH (sf4_7 hs) hc dX4_takesInBracket_113 ?_
      refine lv_aload_n hx hb dX4_takesInBracket_114 rfl (lv_at hl 0 rfl) ?_
      refine w_geti hX hK hH ck4 hs 3 fi4_3 q1_110 dX4_takesInBracket_115 ?_
      obtain ⟨hp, hq⟩ := hq
      refine w_cV hH (w_rV (As := [.int (I1 (k + 4) (v2).toNatClampNeg), .int (I1 (k + 5) (v2).toNatClampNeg), .int (I1 k 3)]) (rest := []) hX hK hE hH (c_X4_addOpposite hs _ _ _ _ hp) ck4 hs q2_68 q2_70 qs10 q1_5 q2_71 hd_X4_addOpposite ⟨Nat.le_of_ble_eq_true rfl, Nat.le_of_ble_eq_true rfl⟩ ⟨rfl, rfl⟩ rfl hl.1 rfl (Nat.le_of_ble_eq_true rfl) dX4_takesInBracket_118 ⟨Nat.zero_le _, Nat.zero_le _⟩) (fun  I2 H locs hpo hH => ?_)
      have hq := hq  I2 hpo
      refine lv_iconst (v := 1) hx hb dX4_takesInBracket_121 (by decide) ?_
      exact w_eZ (by decide) hX hr hlk hH hq dX4_takesInBracket_122
set_option maxRecDepth 100000 in
set_option maxHeartbeats 4000000 in
theorem s_X4_takesInBracket_40 {k : Nat} {x1 : Int32} {Q : Int32 → wI → Prop} (hs : wSh k = (0, 4)) (C0 : wCx p m c s args meth cX4_takesInBracket 3 RX4 (some .boolean) D cs ad b) : ∀ (v2 : Int32) (I : wI) (H : Heap) (locs : List Loc) (ls : Array Slot), v_X4_takesInBracket_40 k x1 Q v2 I → wH D cs b G I s H locs → lv_has ls 3 [(0, .ref (b + k)), (1, .int x1), (2, .int v2)] → W p l e rm_X4_takesInBracket s m args below meth c H locs 0 0 (MQ below (va_Qi (Q) (wPo D cs b G) (fun q => b ≤ q)) args s 0 0 (fun q => b ≤ q)) (F0 m 40 ls []) := by
  obtain ⟨hX, hr, hlk, hK, hE⟩ := id C0
  have hx := hX.1
  have hb := hX.2.1
  have hown := hX.2.2.2.1
  have hts := hX.2.2.2.2
  intro v2 I H locs ls hq hH hl
  unfold v_X4_takesInBracket_40 at hq
  refine lv_aload_n hx hb dX4_takesInBracket_40 rfl (lv_at hl 0 rfl) ?_
  refine w_getr hX hK hH ck4 hs 5 3 (k + 3) fr4_5 rfl q1_114 dX4_takesInBracket_41 ?_
  refine lv_iload_n hx hb dX4_takesInBracket_44 rfl (lv_at hl 2 rfl) ?_
  obtain ⟨hc, hq⟩ := hq
  refine w_iald hX hK hH (sf4_5 hs) hc dX4_takesInBracket_45 ?_
  refine lv_iconst (v := 1) hx hb dX4_takesInBracket_46 (by decide) ?_
  refine lv_icmp_ne (tgt := 80) hx hb dX4_takesInBracket_47 (by decide) (fun hc => ?_) (fun hc => ?_)
  · have hq := hq.1 hc
    exact s_X4_takesInBracket_80 hs C0  v2 _ _ _ _ hq hH (lv_sub hl [0, 1, 2] rfl)
  · have hq := hq.2 hc
    refine lv_iload_n hx hb dX4_takesInBracket_50 rfl (lv_at hl 1 rfl) ?_
    refine lv_bipush (v := 44) hx hb dX4_takesInBracket_51 (by decide) ?_
    refine lv_icmp_ne (tgt := 80) hx hb dX4_takesInBracket_53 (by decide) (fun hc => ?_) (fun hc => ?_)
    · have hq := hq.1 hc
      exact s_X4_takesInBracket_80 hs C0  v2 _ _ _ _ hq hH (lv_sub hl [0, 1, 2] rfl)
    · have hq := hq.2 hc
      refine lv_aload_n hx hb dX4_takesInBracket_56 rfl (lv_at hl 0 rfl) ?_
      refine w_getr hX hK hH ck4 hs 5 3 (k + 3) fr4_5 rfl q1_114 dX4_takesInBracket_57 ?_
      refine lv_iload_n hx hb dX4_takesInBracket_60 rfl (lv_at hl 2 rfl) ?_
      refine lv_iconst (v := 2) hx hb dX4_takesInBracket_61 (by decide) ?_
      obtain ⟨hc, hq⟩ := hq
      refine w_iast hX hK hH (sf4_5 hs) hc dX4_takesInBracket_62 (fun I1 H locs hI hH => ?_)
      have hq := hq I1 hI
      refine lv_aload_n hx hb dX4_takesInBracket_63 rfl (lv_at hl 0 rfl) ?_
      refine w_getr hX hK hH ck4 hs 7 5 (k + 5) fr4_7 rfl q1_116 dX4_takesInBracket_64 ?_
      refine lv_iload_n hx hb dX4_takesInBracket_67 rfl (lv_at hl 2 rfl) ?_
      refine lv_aload_n hx hb dX4_takesInBracket_68 rfl (lv_at hl 0 rfl) ?_
      refine w_geti hX hK hH ck4 hs 3 fi4_3 q1_110 dX4_takesInBracket_69 ?_
      obtain ⟨hc, hq⟩ := hq
      refine w_iast hX hK hH (sf4_7 hs) hc dX4_takesInBracket_72 (fun I2 H locs hI hH => ?_)
      have hq := hq I2 hI
      refine lv_aload_n hx hb dX4_takesInBracket_73 rfl (lv_at hl 0 rfl) ?_
      refine lv_iconst (v := 0) hx hb dX4_takesInBracket_74 (by decide) ?_
      refine w_putz (by decide) hX hK hH ck4 hs 9 fw4_9 q1_118 dX4_takesInBracket_75 (fun I3 H locs hI hH => ?_)
      have hq := hq I3 hI
      refine lv_iconst (v := 1) hx hb dX4_takesInBracket_78 (by decide) ?_
      exact w_eZ (by decide) hX hr hlk hH hq dX4_takesInBracket_79
set_option maxRecDepth 100000 in
set_option maxHeartbeats 4000000 in
theorem s_X4_takesInBracket_16 {k : Nat} {x1 : Int32} {Q : Int32 → wI → Prop} (hs : wSh k = (0, 4)) (C0 : wCx p m c s args meth cX4_takesInBracket 3 RX4 (some .boolean) D cs ad b) : ∀  (I : wI) (H : Heap) (locs : List Loc) (ls : Array Slot), v_X4_takesInBracket_16 k x1 Q  I → wH D cs b G I s H locs → lv_has ls 3 [] → W p l e rm_X4_takesInBracket s m args below meth c H locs 0 0 (MQ below (va_Qi (Q) (wPo D cs b G) (fun q => b ≤ q)) args s 0 0 (fun q => b ≤ q)) (F0 m 16 ls []) := by
  obtain ⟨hX, hr, hlk, hK, hE⟩ := id C0
  have hx := hX.1
  have hb := hX.2.1
  have hown := hX.2.2.2.1
  have hts := hX.2.2.2.2
  intro  I H locs ls hq hH hl
  unfold v_X4_takesInBracket_16 at hq
  refine lv_iconst (v := 0) hx hb dX4_takesInBracket_16 (by decide) ?_
  exact w_eZ (by decide) hX hr hlk hH hq dX4_takesInBracket_17
set_option maxRecDepth 100000 in
set_option maxHeartbeats 4000000 in
theorem c_X4_takesInBracket {l : Launch} {D : va_G} {cs : wC4} {ad : Nat → Nat} {b : Nat} {G : wG} {k : Nat} (hs : wSh k = (0, 4)) (x1 : Int32) (I : wI) (hp : pre_X4_takesInBracket k x1 I) : Met l yX4_takesInBracket (ws_ yX4_takesInBracket cX4_takesInBracket 3 (some .boolean)) rm_X4_takesInBracket (va_Pc [.ref (b + k), .int x1] (wPr D cs ad b G I)) (va_Qi (fun r I' => post_X4_takesInBracket k x1 I r I') (wPo D cs b G) (fun q => b ≤ q)) 0 0 (fun q => b ≤ q) := by
  have hq := vc_X4_takesInBracket k x1 I hp
  refine w_met (by decide) (Nat.le_of_ble_eq_true rfl) ?_
  intro p e s m below meth c hX hr hlk hK hE hH ls hl
  have C0 : wCx p m c s _ meth cX4_takesInBracket 3 RX4 (some .boolean) D cs ad b := ⟨hX, hr, hlk, hK, hE⟩
  have hX : CallFix p m c cX4_takesInBracket 3 s _ lw_all RX4 := hX
  have hx := hX.1
  have hb := hX.2.1
  have hown := hX.2.2.2.1
  have hts := hX.2.2.2.2
  have hl : lv_has ls 3 [(0, .ref (b + k)), (1, .int x1)] := hl
  unfold v_X4_takesInBracket at hq
  refine lv_aload_n hx hb dX4_takesInBracket_0 rfl (lv_at hl 0 rfl) ?_
  refine w_geti hX hK hH ck4 hs 8 fi4_8 q1_117 dX4_takesInBracket_1 ?_
  refine lv_iconst (v := 1) hx hb dX4_takesInBracket_4 (by decide) ?_
  refine lv_isub hx hb dX4_takesInBracket_5 ?_
  refine lv_istore_n (lv' := [(2, .int ((I k 8) - (1 : Int32))), (0, .ref (b + k)), (1, .int x1)]) hx hb dX4_takesInBracket_6 rfl hl (by decide) rfl (fun ls hl => ?_)
  refine lv_iload_n hx hb dX4_takesInBracket_7 rfl (lv_at hl 0 rfl) ?_
  refine lv_if_lt (tgt := 16) hx hb dX4_takesInBracket_8 (by decide) (fun hc => ?_) (fun hc => ?_)
  · have hq := hq.1 hc
    exact s_X4_takesInBracket_16 hs C0   _ _ _ _ hq hH (lv_sub hl [] rfl)
  · have hq := hq.2 hc
    refine lv_iload_n hx hb dX4_takesInBracket_11 rfl (lv_at hl 0 rfl) ?_
    refine lv_iconst (v := 4) hx hb dX4_takesInBracket_12 (by decide) ?_
    refine lv_icmp_lt (tgt := 18) hx hb dX4_takesInBracket_13 (by decide) (fun hc => ?_) (fun hc => ?_)
    · have hq := hq.1 hc
      refine lv_aload_n hx hb dX4_takesInBracket_18 rfl (lv_at hl 1 rfl) ?_
      refine w_getr hX hK hH ck4 hs 5 3 (k + 3) fr4_5 rfl q1_114 dX4_takesInBracket_19 ?_
      refine lv_iload_n hx hb dX4_takesInBracket_22 rfl (lv_at hl 0 rfl) ?_
      obtain ⟨hc, hq⟩ := hq
      refine w_iald hX hK hH (sf4_5 hs) hc dX4_takesInBracket_23 ?_
      refine lv_if_ne (tgt := 40) hx hb dX4_takesInBracket_24 (by decide) (fun hc => ?_) (fun hc => ?_)
      · have hq := hq.1 hc
        exact s_X4_takesInBracket_40 hs C0  ((I k 8) - (1 : Int32)) _ _ _ _ hq hH (lv_sub hl [1, 2, 0] rfl)
      · have hq := hq.2 hc
        refine lv_iload_n hx hb dX4_takesInBracket_27 rfl (lv_at hl 2 rfl) ?_
        refine lv_bipush (v := 41) hx hb dX4_takesInBracket_28 (by decide) ?_
        refine lv_icmp_ne (tgt := 40) hx hb dX4_takesInBracket_30 (by decide) (fun hc => ?_) (fun hc => ?_)
        · have hq := hq.1 hc
          exact s_X4_takesInBracket_40 hs C0  ((I k 8) - (1 : Int32)) _ _ _ _ hq hH (lv_sub hl [1, 2, 0] rfl)
        · have hq := hq.2 hc
          refine lv_aload_n hx hb dX4_takesInBracket_33 rfl (lv_at hl 1 rfl) ?_
          refine lv_iconst (v := 1) hx hb dX4_takesInBracket_34 (by decide) ?_
          refine w_putz (by decide) hX hK hH ck4 hs 10 fw4_10 q1_119 dX4_takesInBracket_35 (fun I1 H locs hI hH => ?_)
          have hq := hq I1 hI
          refine lv_iconst (v := 1) hx hb dX4_takesInBracket_38 (by decide) ?_
          exact w_eZ (by decide) hX hr hlk hH hq dX4_takesInBracket_39
    · have hq := hq.2 hc
      exact s_X4_takesInBracket_16 hs C0   _ _ _ _ hq hH (lv_sub hl [] rfl)
abbrev rm_X4_takes : Room := { frames := 4, cells := 0, slots := 0, locals := 88 }
theorem hd_X4_takes : yX4_takes.cls = RX4 ∧ yX4_takes.cls ≠ "java/lang/invoke/MethodHandle" ∧ yX4_takes.cls ≠ "java/lang/invoke/VarHandle" ∧ (parseMethodDescriptor yX4_takes.desc).map (fun d => d.parameters.length) = some 1 := by decide +kernel
set_option maxRecDepth 100000 in
set_option maxHeartbeats 4000000 in
theorem s_X4_takes_107 {k : Nat} {x1 : Int32} {Q : Int32 → wI → Prop} (hs : wSh k = (0, 4)) (C0 : wCx p m c s args meth cX4_takes 2 RX4 (some .boolean) D cs ad b) : ∀ (t0 : Int32) (I : wI) (H : Heap) (locs : List Loc) (ls : Array Slot), v_X4_takes_107 k x1 Q t0 I → wH D cs b G I s H locs → lv_has ls 2 [] → W p l e rm_X4_takes s m args below meth c H locs 0 0 (MQ below (va_Qi (Q) (wPo D cs b G) (fun q => b ≤ q)) args s 0 0 (fun q => b ≤ q)) (F0 m 107 ls [.int t0]) := by
  obtain ⟨hX, hr, hlk, hK, hE⟩ := id C0
  have hx := hX.1
  have hb := hX.2.1
  have hown := hX.2.2.2.1
  have hts := hX.2.2.2.2
  intro t0 I H locs ls hq hH hl
  unfold v_X4_takes_107 at hq
  obtain ⟨hz, hq⟩ := hq
  exact w_eZ hz hX hr hlk hH hq dX4_takes_107
set_option maxRecDepth 100000 in
set_option maxHeartbeats 4000000 in
theorem s_X4_takes_106 {k : Nat} {x1 : Int32} {Q : Int32 → wI → Prop} (hs : wSh k = (0, 4)) (C0 : wCx p m c s args meth cX4_takes 2 RX4 (some .boolean) D cs ad b) : ∀  (I : wI) (H : Heap) (locs : List Loc) (ls : Array Slot), v_X4_takes_106 k x1 Q  I → wH D cs b G I s H locs → lv_has ls 2 [] → W p l e rm_X4_takes s m args below meth c H locs 0 0 (MQ below (va_Qi (Q) (wPo D cs b G) (fun q => b ≤ q)) args s 0 0 (fun q => b ≤ q)) (F0 m 106 ls []) := by
  obtain ⟨hX, hr, hlk, hK, hE⟩ := id C0
  have hx := hX.1
  have hb := hX.2.1
  have hown := hX.2.2.2.1
  have hts := hX.2.2.2.2
  intro  I H locs ls hq hH hl
  unfold v_X4_takes_106 at hq
  refine lv_iconst (v := 0) hx hb dX4_takes_106 (by decide) ?_
  exact s_X4_takes_107 hs C0  (0 : Int32) _ _ _ _ hq hH (lv_sub hl [] rfl)
set_option maxRecDepth 100000 in
set_option maxHeartbeats 4000000 in
theorem s_X4_takes_63 {k : Nat} {x1 : Int32} {Q : Int32 → wI → Prop} (hs : wSh k = (0, 4)) (C0 : wCx p m c s args meth cX4_takes 2 RX4 (some .boolean) D cs ad b) : ∀  (I : wI) (H : Heap) (locs : List Loc) (ls : Array Slot), v_X4_takes_63 k x1 Q  I → wH D cs b G I s H locs → lv_has ls 2 [(0, .ref (b + k)), (1, .int x1)] → W p l e rm_X4_takes s m args below meth c H locs 0 0 (MQ below (va_Qi (Q) (wPo D cs b G) (fun q => b ≤ q)) args s 0 0 (fun q => b ≤ q)) (F0 m 63 ls []) := by
  obtain ⟨hX, hr, hlk, hK, hE⟩ := id C0
  have hx := hX.1
  have hb := hX.2.1
  have hown := hX.2.2.2.1
  have hts := hX.2.2.2.2
  intro  I H locs ls hq hH hl
  unfold v_X4_takes_63 at hq
  refine lv_iload_n hx hb dX4_takes_63 rfl (lv_at hl 1 rfl) ?_
  refine lv_bipush (v := 40) hx hb dX4_takes_64 (by decide) ?_
  refine lv_icmp_ne (tgt := 75) hx hb dX4_takes_66 (by decide) (fun hc => ?_) (fun hc => ?_)
  · have hq := hq.1 hc
    refine lv_iload_n hx hb dX4_takes_75 rfl (lv_at hl 1 rfl) ?_
    refine lv_bipush (v := 91) hx hb dX4_takes_76 (by decide) ?_
    refine lv_icmp_ne (tgt := 87) hx hb dX4_takes_78 (by decide) (fun hc => ?_) (fun hc => ?_)
    · have hq := hq.1 hc
      refine lv_aload_n hx hb dX4_takes_87 rfl (lv_at hl 0 rfl) ?_
      refine w_geti hX hK hH ck4 hs 9 fi4_9 q1_118 dX4_takes_88 ?_
      refine lv_if_eq (tgt := 106) hx hb dX4_takes_91 (by decide) (fun hc => ?_) (fun hc => ?_)
      · have hq := hq.1 hc
        exact s_X4_takes_106 hs C0   _ _ _ _ hq hH (lv_sub hl [] rfl)
      · have hq := hq.2 hc
        refine lv_aload_n hx hb dX4_takes_94 rfl (lv_at hl 0 rfl) ?_
        refine lv_iload_n hx hb dX4_takes_95 rfl (lv_at hl 1 rfl) ?_
        obtain ⟨hp, hq⟩ := hq
        refine w_cI hH (w_rV (As := [.int x1]) (rest := []) hX hK hE hH (c_X4_takesInBracket hs _ _ hp) ck4 hs q2_64 q2_66 qs9 q1_5 q2_67 hd_X4_takesInBracket ⟨Nat.le_of_ble_eq_true rfl, Nat.le_of_ble_eq_true rfl⟩ ⟨rfl, rfl⟩ rfl hl.1 rfl (Nat.le_of_ble_eq_true rfl) dX4_takes_96 ⟨Nat.zero_le _, Nat.zero_le _⟩) (fun r1 I2 H locs hpo hH => ?_)
        have hq := hq r1 I2 hpo
        refine lv_if_eq (tgt := 106) hx hb dX4_takes_99 (by decide) (fun hc => ?_) (fun hc => ?_)
        · have hq := hq.1 hc
          exact s_X4_takes_106 hs C0   _ _ _ _ hq hH (lv_sub hl [] rfl)
        · have hq := hq.2 hc
          refine lv_iconst (v := 1) hx hb dX4_takes_102 (by decide) ?_
          refine lv_goto (tgt := 107) hx hb dX4_takes_103 (by decide) ?_
          exact s_X4_takes_107 hs C0  (1 : Int32) _ _ _ _ hq hH (lv_sub hl [] rfl)
    · have hq := hq.2 hc
      refine lv_aload_n hx hb dX4_takes_81 rfl (lv_at hl 0 rfl) ?_
      refine lv_iconst (v := 1) hx hb dX4_takes_82 (by decide) ?_
      obtain ⟨hp, hq⟩ := hq
      refine w_cI hH (w_rV (As := [.int (1 : Int32)]) (rest := []) hX hK hE hH (c_X4_takesOpening hs _ _ hp) ck4 hs q2_60 q2_62 qs8 q1_5 q2_63 hd_X4_takesOpening ⟨Nat.le_of_ble_eq_true rfl, Nat.le_of_ble_eq_true rfl⟩ ⟨rfl, rfl⟩ rfl hl.1 rfl (Nat.le_of_ble_eq_true rfl) dX4_takes_83 ⟨Nat.zero_le _, Nat.zero_le _⟩) (fun r3 I4 H locs hpo hH => ?_)
      have hq := hq r3 I4 hpo
      obtain ⟨hz, hq⟩ := hq
      exact w_eZ hz hX hr hlk hH hq dX4_takes_86
  · have hq := hq.2 hc
    refine lv_aload_n hx hb dX4_takes_69 rfl (lv_at hl 0 rfl) ?_
    refine lv_iconst (v := 0) hx hb dX4_takes_70 (by decide) ?_
    obtain ⟨hp, hq⟩ := hq
    refine w_cI hH (w_rV (As := [.int (0 : Int32)]) (rest := []) hX hK hE hH (c_X4_takesOpening hs _ _ hp) ck4 hs q2_60 q2_62 qs8 q1_5 q2_63 hd_X4_takesOpening ⟨Nat.le_of_ble_eq_true rfl, Nat.le_of_ble_eq_true rfl⟩ ⟨rfl, rfl⟩ rfl hl.1 rfl (Nat.le_of_ble_eq_true rfl) dX4_takes_71 ⟨Nat.zero_le _, Nat.zero_le _⟩) (fun r5 I6 H locs hpo hH => ?_)
    have hq := hq r5 I6 hpo
    obtain ⟨hz, hq⟩ := hq
    exact w_eZ hz hX hr hlk hH hq dX4_takes_74
set_option maxRecDepth 100000 in
set_option maxHeartbeats 4000000 in
theorem s_X4_takes_38 {k : Nat} {x1 : Int32} {Q : Int32 → wI → Prop} (hs : wSh k = (0, 4)) (C0 : wCx p m c s args meth cX4_takes 2 RX4 (some .boolean) D cs ad b) : ∀  (I : wI) (H : Heap) (locs : List Loc) (ls : Array Slot), v_X4_takes_38 k x1 Q  I → wH D cs b G I s H locs → lv_has ls 2 [(0, .ref (b + k)), (1, .int x1)] → W p l e rm_X4_takes s m args below meth c H locs 0 0 (MQ below (va_Qi (Q) (wPo D cs b G) (fun q => b ≤ q)) args s 0 0 (fun q => b ≤ q)) (F0 m 38 ls []) := by
  obtain ⟨hX, hr, hlk, hK, hE⟩ := id C0
  have hx := hX.1
  have hb := hX.2.1
  have hown := hX.2.2.2.1
  have hts := hX.2.2.2.2
  intro  I H locs ls hq hH hl
  unfold v_X4_takes_38 at hq
  refine lv_iload_n hx hb dX4_takes_38 rfl (lv_at hl 1 rfl) ?_
  refine lv_bipush (v := 65) hx hb dX4_takes_39 (by decide) ?_
  refine lv_icmp_lt (tgt := 63) hx hb dX4_takes_41 (by decide) (fun hc => ?_) (fun hc => ?_)
  · have hq := hq.1 hc
    exact s_X4_takes_63 hs C0   _ _ _ _ hq hH (lv_sub hl [0, 1] rfl)
  · have hq := hq.2 hc
    refine lv_iload_n hx hb dX4_takes_44 rfl (lv_at hl 1 rfl) ?_
    refine lv_bipush (v := 69) hx hb dX4_takes_45 (by decide) ?_
    refine lv_icmp_gt (tgt := 63) hx hb dX4_takes_47 (by decide) (fun hc => ?_) (fun hc => ?_)
    · have hq := hq.1 hc
      exact s_X4_takes_63 hs C0   _ _ _ _ hq hH (lv_sub hl [0, 1] rfl)
    · have hq := hq.2 hc
      refine lv_aload_n hx hb dX4_takes_50 rfl (lv_at hl 0 rfl) ?_
      refine lv_iload_n hx hb dX4_takes_51 rfl (lv_at hl 1 rfl) ?_
      refine lv_bipush (v := 65) hx hb dX4_takes_52 (by decide) ?_
      refine lv_isub hx hb dX4_takes_54 ?_
      refine lv_iconst (v := 1) hx hb dX4_takes_55 (by decide) ?_
      obtain ⟨hp, hq⟩ := hq
      refine w_cIp hH (w_rSN (As := [.int (x1 - (65 : Int32)), .int (1 : Int32)]) (rest := [.ref (b + k)]) hX hK hE hH (c_X5_moveOf  _ _ _ hp) qn2_53 q2_54 q1_1 q2_55 hd_X5_moveOf.2 ⟨Nat.le_of_ble_eq_true rfl, Nat.le_of_ble_eq_true rfl⟩ ⟨rfl, rfl⟩ rfl hl.1 rfl (Nat.le_of_ble_eq_true rfl) dX4_takes_56 ⟨Nat.zero_le _, Nat.zero_le _⟩) (fun r1  H locs hpo hH => ?_)
      have hq := hq r1  hpo
      obtain ⟨hp, hq⟩ := hq
      refine w_cI hH (w_rV (As := [.int r1]) (rest := []) hX hK hE hH (c_X4_takesMove hs _ _ hp) ck4 hs q2_56 q2_58 qs7 q1_5 q2_59 hd_X4_takesMove ⟨Nat.le_of_ble_eq_true rfl, Nat.le_of_ble_eq_true rfl⟩ ⟨rfl, rfl⟩ rfl hl.1 rfl (Nat.le_of_ble_eq_true rfl) dX4_takes_59 ⟨Nat.zero_le _, Nat.zero_le _⟩) (fun r2 I3 H locs hpo hH => ?_)
      have hq := hq r2 I3 hpo
      obtain ⟨hz, hq⟩ := hq
      exact w_eZ hz hX hr hlk hH hq dX4_takes_62
set_option maxRecDepth 100000 in
set_option maxHeartbeats 4000000 in
theorem c_X4_takes {l : Launch} {D : va_G} {cs : wC4} {ad : Nat → Nat} {b : Nat} {G : wG} {k : Nat} (hs : wSh k = (0, 4)) (x1 : Int32) (I : wI) (hp : pre_X4_takes k x1 I) : Met l yX4_takes (ws_ yX4_takes cX4_takes 2 (some .boolean)) rm_X4_takes (va_Pc [.ref (b + k), .int x1] (wPr D cs ad b G I)) (va_Qi (fun r I' => post_X4_takes k x1 I r I') (wPo D cs b G) (fun q => b ≤ q)) 0 0 (fun q => b ≤ q) := by
  have hq := vc_X4_takes k x1 I hp
  refine w_met (by decide) (Nat.le_of_ble_eq_true rfl) ?_
  intro p e s m below meth c hX hr hlk hK hE hH ls hl
  have C0 : wCx p m c s _ meth cX4_takes 2 RX4 (some .boolean) D cs ad b := ⟨hX, hr, hlk, hK, hE⟩
  have hX : CallFix p m c cX4_takes 2 s _ lw_all RX4 := hX
  have hx := hX.1
  have hb := hX.2.1
  have hown := hX.2.2.2.1
  have hts := hX.2.2.2.2
  have hl : lv_has ls 2 [(0, .ref (b + k)), (1, .int x1)] := hl
  unfold v_X4_takes at hq
  refine lv_aload_n hx hb dX4_takes_0 rfl (lv_at hl 0 rfl) ?_
  refine w_geti hX hK hH ck4 hs 10 fi4_10 q1_119 dX4_takes_1 ?_
  refine lv_if_eq (tgt := 13) hx hb dX4_takes_4 (by decide) (fun hc => ?_) (fun hc => ?_)
  · have hq := hq.1 hc
    refine lv_iload_n hx hb dX4_takes_13 rfl (lv_at hl 1 rfl) ?_
    refine lv_bipush (v := 97) hx hb dX4_takes_14 (by decide) ?_
    refine lv_icmp_lt (tgt := 38) hx hb dX4_takes_16 (by decide) (fun hc => ?_) (fun hc => ?_)
    · have hq := hq.1 hc
      exact s_X4_takes_38 hs C0   _ _ _ _ hq hH (lv_sub hl [0, 1] rfl)
    · have hq := hq.2 hc
      refine lv_iload_n hx hb dX4_takes_19 rfl (lv_at hl 1 rfl) ?_
      refine lv_bipush (v := 101) hx hb dX4_takes_20 (by decide) ?_
      refine lv_icmp_gt (tgt := 38) hx hb dX4_takes_22 (by decide) (fun hc => ?_) (fun hc => ?_)
      · have hq := hq.1 hc
        exact s_X4_takes_38 hs C0   _ _ _ _ hq hH (lv_sub hl [0, 1] rfl)
      · have hq := hq.2 hc
        refine lv_aload_n hx hb dX4_takes_25 rfl (lv_at hl 0 rfl) ?_
        refine lv_iload_n hx hb dX4_takes_26 rfl (lv_at hl 1 rfl) ?_
        refine lv_bipush (v := 97) hx hb dX4_takes_27 (by decide) ?_
        refine lv_isub hx hb dX4_takes_29 ?_
        refine lv_iconst (v := 0) hx hb dX4_takes_30 (by decide) ?_
        obtain ⟨hp, hq⟩ := hq
        refine w_cIp hH (w_rSN (As := [.int (x1 - (97 : Int32)), .int (0 : Int32)]) (rest := [.ref (b + k)]) hX hK hE hH (c_X5_moveOf  _ _ _ hp) qn2_53 q2_54 q1_1 q2_55 hd_X5_moveOf.2 ⟨Nat.le_of_ble_eq_true rfl, Nat.le_of_ble_eq_true rfl⟩ ⟨rfl, rfl⟩ rfl hl.1 rfl (Nat.le_of_ble_eq_true rfl) dX4_takes_31 ⟨Nat.zero_le _, Nat.zero_le _⟩) (fun r1  H locs hpo hH => ?_)
        have hq := hq r1  hpo
        obtain ⟨hp, hq⟩ := hq
        refine w_cI hH (w_rV (As := [.int r1]) (rest := []) hX hK hE hH (c_X4_takesMove hs _ _ hp) ck4 hs q2_56 q2_58 qs7 q1_5 q2_59 hd_X4_takesMove ⟨Nat.le_of_ble_eq_true rfl, Nat.le_of_ble_eq_true rfl⟩ ⟨rfl, rfl⟩ rfl hl.1 rfl (Nat.le_of_ble_eq_true rfl) dX4_takes_34 ⟨Nat.zero_le _, Nat.zero_le _⟩) (fun r2 I3 H locs hpo hH => ?_)
        have hq := hq r2 I3 hpo
        obtain ⟨hz, hq⟩ := hq
        exact w_eZ hz hX hr hlk hH hq dX4_takes_37
  · have hq := hq.2 hc
    refine lv_aload_n hx hb dX4_takes_7 rfl (lv_at hl 0 rfl) ?_
    refine lv_iload_n hx hb dX4_takes_8 rfl (lv_at hl 1 rfl) ?_
    obtain ⟨hp, hq⟩ := hq
    refine w_cI hH (w_rV (As := [.int x1]) (rest := []) hX hK hE hH (c_X4_takesFigure hs _ _ hp) ck4 hs q2_37 q2_39 qs4 q1_5 q2_40 hd_X4_takesFigure ⟨Nat.le_of_ble_eq_true rfl, Nat.le_of_ble_eq_true rfl⟩ ⟨rfl, rfl⟩ rfl hl.1 rfl (Nat.le_of_ble_eq_true rfl) dX4_takes_9 ⟨Nat.zero_le _, Nat.zero_le _⟩) (fun r4 I5 H locs hpo hH => ?_)
    have hq := hq r4 I5 hpo
    obtain ⟨hz, hq⟩ := hq
    exact w_eZ hz hX hr hlk hH hq dX4_takes_12
abbrev rm_X4_read : Room := { frames := 5, cells := 0, slots := 0, locals := 109 }
theorem hd_X4_read : yX4_read.cls = RX4 ∧ yX4_read.cls ≠ "java/lang/invoke/MethodHandle" ∧ yX4_read.cls ≠ "java/lang/invoke/VarHandle" ∧ (parseMethodDescriptor yX4_read.desc).map (fun d => d.parameters.length) = some 0 := by decide +kernel
set_option maxRecDepth 100000 in
set_option maxHeartbeats 4000000 in
theorem s_X4_read_83 {k : Nat} {Q : Int32 → wI → Prop} (hs : wSh k = (0, 4)) (C0 : wCx p m c s args meth cX4_read 2 RX4 (some .int) D cs ad b) : ∀ (v1 : Int32) (t0 : Int32) (I : wI) (H : Heap) (locs : List Loc) (ls : Array Slot), v_X4_read_83 k Q v1 t0 I → wH D cs b G I s H locs → lv_has ls 2 [(1, .int v1)] → W p l e rm_X4_read s m args below meth c H locs 0 0 (MQ below (va_Qi (Q) (wPo D cs b G) (fun q => b ≤ q)) args s 0 0 (fun q => b ≤ q)) (F0 m 83 ls [.int t0, .ref (b + k)]) := by
  obtain ⟨hX, hr, hlk, hK, hE⟩ := id C0
  have hx := hX.1
  have hb := hX.2.1
  have hown := hX.2.2.2.1
  have hts := hX.2.2.2.2
  intro v1 t0 I H locs ls hq hH hl
  unfold v_X4_read_83 at hq
  obtain ⟨hz, hq⟩ := hq
  refine w_putz hz hX hK hH ck4 hs 4 fw4_4 q1_112 dX4_read_83 (fun I1 H locs hI hH => ?_)
  have hq := hq I1 hI
  refine lv_iload_n hx hb dX4_read_86 rfl (lv_at hl 0 rfl) ?_
  exact w_eI hX hr hlk hH hq dX4_read_87
set_option maxRecDepth 100000 in
set_option maxHeartbeats 4000000 in
theorem s_X4_read_82 {k : Nat} {Q : Int32 → wI → Prop} (hs : wSh k = (0, 4)) (C0 : wCx p m c s args meth cX4_read 2 RX4 (some .int) D cs ad b) : ∀ (v1 : Int32) (I : wI) (H : Heap) (locs : List Loc) (ls : Array Slot), v_X4_read_82 k Q v1 I → wH D cs b G I s H locs → lv_has ls 2 [(1, .int v1)] → W p l e rm_X4_read s m args below meth c H locs 0 0 (MQ below (va_Qi (Q) (wPo D cs b G) (fun q => b ≤ q)) args s 0 0 (fun q => b ≤ q)) (F0 m 82 ls [.ref (b + k)]) := by
  obtain ⟨hX, hr, hlk, hK, hE⟩ := id C0
  have hx := hX.1
  have hb := hX.2.1
  have hown := hX.2.2.2.1
  have hts := hX.2.2.2.2
  intro v1 I H locs ls hq hH hl
  unfold v_X4_read_82 at hq
  refine lv_iconst (v := 0) hx hb dX4_read_82 (by decide) ?_
  exact s_X4_read_83 hs C0  v1 (0 : Int32) _ _ _ _ hq hH (lv_sub hl [0] rfl)
set_option maxRecDepth 100000 in
set_option maxHeartbeats 4000000 in
theorem s_X4_read_48 {k : Nat} {Q : Int32 → wI → Prop} (hs : wSh k = (0, 4)) (C0 : wCx p m c s args meth cX4_read 2 RX4 (some .int) D cs ad b) : ∀ (v1 : Int32) (I : wI) (H : Heap) (locs : List Loc) (ls : Array Slot), v_X4_read_48 k Q v1 I → wH D cs b G I s H locs → lv_has ls 2 [(0, .ref (b + k)), (1, .int v1)] → W p l e rm_X4_read s m args below meth c H locs 0 0 (MQ below (va_Qi (Q) (wPo D cs b G) (fun q => b ≤ q)) args s 0 0 (fun q => b ≤ q)) (F0 m 48 ls []) := by
  obtain ⟨hX, hr, hlk, hK, hE⟩ := id C0
  have hx := hX.1
  have hb := hX.2.1
  have hown := hX.2.2.2.1
  have hts := hX.2.2.2.2
  intro v1 I H locs ls hq hH hl
  unfold v_X4_read_48 at hq
  refine lv_aload_n hx hb dX4_read_48 rfl (lv_at hl 0 rfl) ?_
  refine lv_iload_n hx hb dX4_read_49 rfl (lv_at hl 1 rfl) ?_
  refine lv_aload_n hx hb dX4_read_50 rfl (lv_at hl 0 rfl) ?_
  refine w_geti hX hK hH ck4 hs 1 fi4_1 q1_107 dX4_read_51 ?_
  refine lv_icmp_ne (tgt := 82) hx hb dX4_read_54 (by decide) (fun hc => ?_) (fun hc => ?_)
  · have hq := hq.1 hc
    exact s_X4_read_82 hs C0  v1 _ _ _ _ hq hH (lv_sub hl [1] rfl)
  · have hq := hq.2 hc
    refine lv_aload_n hx hb dX4_read_57 rfl (lv_at hl 0 rfl) ?_
    refine w_geti hX hK hH ck4 hs 8 fi4_8 q1_117 dX4_read_58 ?_
    refine lv_if_ne (tgt := 82) hx hb dX4_read_61 (by decide) (fun hc => ?_) (fun hc => ?_)
    · have hq := hq.1 hc
      exact s_X4_read_82 hs C0  v1 _ _ _ _ hq hH (lv_sub hl [1] rfl)
    · have hq := hq.2 hc
      refine lv_aload_n hx hb dX4_read_64 rfl (lv_at hl 0 rfl) ?_
      refine w_geti hX hK hH ck4 hs 9 fi4_9 q1_118 dX4_read_65 ?_
      refine lv_if_eq (tgt := 82) hx hb dX4_read_68 (by decide) (fun hc => ?_) (fun hc => ?_)
      · have hq := hq.1 hc
        exact s_X4_read_82 hs C0  v1 _ _ _ _ hq hH (lv_sub hl [1] rfl)
      · have hq := hq.2 hc
        refine lv_aload_n hx hb dX4_read_71 rfl (lv_at hl 0 rfl) ?_
        refine w_geti hX hK hH ck4 hs 10 fi4_10 q1_119 dX4_read_72 ?_
        refine lv_if_ne (tgt := 82) hx hb dX4_read_75 (by decide) (fun hc => ?_) (fun hc => ?_)
        · have hq := hq.1 hc
          exact s_X4_read_82 hs C0  v1 _ _ _ _ hq hH (lv_sub hl [1] rfl)
        · have hq := hq.2 hc
          refine lv_iconst (v := 1) hx hb dX4_read_78 (by decide) ?_
          refine lv_goto (tgt := 83) hx hb dX4_read_79 (by decide) ?_
          exact s_X4_read_83 hs C0  v1 (1 : Int32) _ _ _ _ hq hH (lv_sub hl [1] rfl)
set_option maxRecDepth 100000 in
set_option maxHeartbeats 4000000 in
theorem s_X4_read_22 {k : Nat} {Q : Int32 → wI → Prop} (hs : wSh k = (0, 4)) (C0 : wCx p m c s args meth cX4_read 2 RX4 (some .int) D cs ad b) : ∀ (f : Nat) (v1 : Int32) (I : wI) (H : Heap) (locs : List Loc) (ls : Array Slot), v_X4_read_22 k Q f v1 I → wH D cs b G I s H locs → lv_has ls 2 [(0, .ref (b + k)), (1, .int v1)] → W p l e rm_X4_read s m args below meth c H locs 0 0 (MQ below (va_Qi (Q) (wPo D cs b G) (fun q => b ≤ q)) args s 0 0 (fun q => b ≤ q)) (F0 m 22 ls []) := by
  obtain ⟨hX, hr, hlk, hK, hE⟩ := id C0
  have hx := hX.1
  have hb := hX.2.1
  have hown := hX.2.2.2.1
  have hts := hX.2.2.2.2
  intro f
  induction f with
  | zero =>
    intro v1 I H locs ls hq
    exact hq.elim
  | succ f hK22 =>
    intro v1 I H locs ls hq hH hl
    have hq : g_X4_read_22 k Q (v_X4_read_22 k Q f) v1 I := hq
    unfold g_X4_read_22 at hq
    refine lv_iload_n hx hb dX4_read_22 rfl (lv_at hl 1 rfl) ?_
    refine lv_aload_n hx hb dX4_read_23 rfl (lv_at hl 0 rfl) ?_
    refine w_geti hX hK hH ck4 hs 1 fi4_1 q1_107 dX4_read_24 ?_
    refine lv_icmp_ge (tgt := 48) hx hb dX4_read_27 (by decide) (fun hc => ?_) (fun hc => ?_)
    · have hq := hq.1 hc
      exact s_X4_read_48 hs C0  v1 _ _ _ _ hq hH (lv_sub hl [0, 1] rfl)
    · have hq := hq.2 hc
      refine lv_aload_n hx hb dX4_read_30 rfl (lv_at hl 0 rfl) ?_
      refine lv_aload_n hx hb dX4_read_31 rfl (lv_at hl 0 rfl) ?_
      refine lv_iload_n hx hb dX4_read_32 rfl (lv_at hl 1 rfl) ?_
      obtain ⟨hp, hq⟩ := hq
      refine w_cIp hH (w_rV (As := [.int v1]) (rest := [.ref (b + k)]) hX hK hE hH (c_X4_signAt hs _ _ hp) ck4 hs q2_29 q2_30 q2_31 q1_5 q2_32 hd_X4_signAt ⟨Nat.le_of_ble_eq_true rfl, Nat.le_of_ble_eq_true rfl⟩ ⟨rfl, rfl⟩ rfl hl.1 rfl (Nat.le_of_ble_eq_true rfl) dX4_read_33 ⟨Nat.zero_le _, Nat.zero_le _⟩) (fun r1  H locs hpo hH => ?_)
      have hq := hq r1  hpo
      obtain ⟨hp, hq⟩ := hq
      refine w_cI hH (w_rV (As := [.int r1]) (rest := []) hX hK hE hH (c_X4_takes hs _ _ hp) ck4 hs q2_33 q2_35 qs3 q1_5 q2_36 hd_X4_takes ⟨Nat.le_of_ble_eq_true rfl, Nat.le_of_ble_eq_true rfl⟩ ⟨rfl, rfl⟩ rfl hl.1 rfl (Nat.le_of_ble_eq_true rfl) dX4_read_36 ⟨Nat.zero_le _, Nat.zero_le _⟩) (fun r2 I3 H locs hpo hH => ?_)
      have hq := hq r2 I3 hpo
      refine lv_if_eq (tgt := 48) hx hb dX4_read_39 (by decide) (fun hc => ?_) (fun hc => ?_)
      · have hq := hq.1 hc
        exact s_X4_read_48 hs C0  v1 _ _ _ _ hq hH (lv_sub hl [0, 1] rfl)
      · have hq := hq.2 hc
        refine lv_iinc (v := (v1 + (1 : Int32))) (lv' := [(1, .int (v1 + (1 : Int32))), (0, .ref (b + k))]) hx hb dX4_read_42 hl (k := 1) rfl rfl (by decide) rfl (fun ls hl => ?_)
        refine lv_goto (tgt := 22) hx hb dX4_read_45 (by decide) ?_
        exact hK22 (v1 + (1 : Int32)) _ _ _ _ hq hH (lv_sub hl [1, 0] rfl)
set_option maxRecDepth 100000 in
set_option maxHeartbeats 4000000 in
theorem c_X4_read {l : Launch} {D : va_G} {cs : wC4} {ad : Nat → Nat} {b : Nat} {G : wG} {k : Nat} (hs : wSh k = (0, 4))  (I : wI) (hp : pre_X4_read k I) : Met l yX4_read (ws_ yX4_read cX4_read 2 (some .int)) rm_X4_read (va_Pc [.ref (b + k)] (wPr D cs ad b G I)) (va_Qi (fun r I' => post_X4_read k I r I') (wPo D cs b G) (fun q => b ≤ q)) 0 0 (fun q => b ≤ q) := by
  have hq := vc_X4_read k I hp
  refine w_met (by decide) (Nat.le_of_ble_eq_true rfl) ?_
  intro p e s m below meth c hX hr hlk hK hE hH ls hl
  have C0 : wCx p m c s _ meth cX4_read 2 RX4 (some .int) D cs ad b := ⟨hX, hr, hlk, hK, hE⟩
  have hX : CallFix p m c cX4_read 2 s _ lw_all RX4 := hX
  have hx := hX.1
  have hb := hX.2.1
  have hown := hX.2.2.2.1
  have hts := hX.2.2.2.2
  have hl : lv_has ls 2 [(0, .ref (b + k))] := hl
  unfold v_X4_read at hq
  refine lv_aload_n hx hb dX4_read_0 rfl (lv_at hl 0 rfl) ?_
  refine lv_iconst (v := 0) hx hb dX4_read_1 (by decide) ?_
  refine w_puti hX hK hH ck4 hs 3 fw4_3 q1_110 dX4_read_2 (fun I1 H locs hI hH => ?_)
  have hq := hq I1 hI
  refine lv_aload_n hx hb dX4_read_5 rfl (lv_at hl 0 rfl) ?_
  refine lv_iconst (v := 0) hx hb dX4_read_6 (by decide) ?_
  refine w_puti hX hK hH ck4 hs 8 fw4_8 q1_117 dX4_read_7 (fun I2 H locs hI hH => ?_)
  have hq := hq I2 hI
  refine lv_aload_n hx hb dX4_read_10 rfl (lv_at hl 0 rfl) ?_
  refine lv_iconst (v := 0) hx hb dX4_read_11 (by decide) ?_
  refine w_putz (by decide) hX hK hH ck4 hs 9 fw4_9 q1_118 dX4_read_12 (fun I3 H locs hI hH => ?_)
  have hq := hq I3 hI
  refine lv_aload_n hx hb dX4_read_15 rfl (lv_at hl 0 rfl) ?_
  refine lv_iconst (v := 0) hx hb dX4_read_16 (by decide) ?_
  refine w_putz (by decide) hX hK hH ck4 hs 10 fw4_10 q1_119 dX4_read_17 (fun I4 H locs hI hH => ?_)
  have hq := hq I4 hI
  refine lv_iconst (v := 0) hx hb dX4_read_20 (by decide) ?_
  refine lv_istore_n (lv' := [(1, .int (0 : Int32)), (0, .ref (b + k))]) hx hb dX4_read_21 rfl hl (by decide) rfl (fun ls hl => ?_)
  obtain ⟨f, hq⟩ := hq
  exact s_X4_read_22 hs C0  f (0 : Int32) _ _ _ _ hq hH (lv_sub hl [1, 0] rfl)
abbrev rm_X5_word : Room := { frames := 8, cells := 0, slots := 0, locals := 130 }
theorem hd_X5_word : yX5_word.cls = RX5 ∧ yX5_word.cls ≠ "java/lang/invoke/MethodHandle" ∧ yX5_word.cls ≠ "java/lang/invoke/VarHandle" ∧ (parseMethodDescriptor yX5_word.desc).map (fun d => d.parameters.length) = some 0 := by decide +kernel
set_option maxRecDepth 100000 in
set_option maxHeartbeats 4000000 in
theorem s_X5_word_107 {Q : Int32 → wI → Prop} (C0 : wCx p m c s args meth cX5_word 2 RX5 (some .int) D cs ad b) : ∀ (v1 : Int32) (I : wI) (H : Heap) (locs : List Loc) (ls : Array Slot), v_X5_word_107 Q v1 I → wH D cs b G I s H locs → lv_has ls 2 [(0, .ref (b + 0)), (1, .int v1)] → W p l e rm_X5_word s m args below meth c H locs 0 0 (MQ below (va_Qi (Q) (wPo D cs b G) (fun q => b ≤ q)) args s 0 0 (fun q => b ≤ q)) (F0 m 107 ls []) := by
  obtain ⟨hX, hr, hlk, hK, hE⟩ := id C0
  have hx := hX.1
  have hb := hX.2.1
  have hown := hX.2.2.2.1
  have hts := hX.2.2.2.2
  intro v1 I H locs ls hq hH hl
  unfold v_X5_word_107 at hq
  refine lv_aload_n hx hb dX5_word_107 rfl (lv_at hl 0 rfl) ?_
  refine w_getr hX hK hH ck5 sh0 5 24 24 fr5_5 rfl q1_183 dX5_word_108 ?_
  refine lv_iconst (v := 0) hx hb dX5_word_111 (by decide) ?_
  refine w_putiN hX hK hE hH ck4 (sf5_5 sh0) 1 fw4_1 qn1_108 dX5_word_112 (fun I1 H locs hI hH => ?_)
  have hq := hq I1 hI
  refine lv_iload_n hx hb dX5_word_115 rfl (lv_at hl 1 rfl) ?_
  exact w_eI hX hr hlk hH hq dX5_word_116
set_option maxRecDepth 100000 in
set_option maxHeartbeats 4000000 in
theorem s_X5_word_57 {Q : Int32 → wI → Prop} (C0 : wCx p m c s args meth cX5_word 2 RX5 (some .int) D cs ad b) : ∀ (f : Nat) (v1 : Int32) (I : wI) (H : Heap) (locs : List Loc) (ls : Array Slot), v_X5_word_57 Q f v1 I → wH D cs b G I s H locs → lv_has ls 2 [(0, .ref (b + 0)), (1, .int v1)] → W p l e rm_X5_word s m args below meth c H locs 0 0 (MQ below (va_Qi (Q) (wPo D cs b G) (fun q => b ≤ q)) args s 0 0 (fun q => b ≤ q)) (F0 m 57 ls []) := by
  obtain ⟨hX, hr, hlk, hK, hE⟩ := id C0
  have hx := hX.1
  have hb := hX.2.1
  have hown := hX.2.2.2.1
  have hts := hX.2.2.2.2
  intro f
  induction f with
  | zero =>
    intro v1 I H locs ls hq
    exact hq.elim
  | succ f hK57 =>
    intro v1 I H locs ls hq hH hl
    have hq : g_X5_word_57 Q (v_X5_word_57 Q f) v1 I := hq
    unfold g_X5_word_57 at hq
    refine lv_iload_n hx hb dX5_word_57 rfl (lv_at hl 1 rfl) ?_
    refine lv_aload_n hx hb dX5_word_58 rfl (lv_at hl 0 rfl) ?_
    refine w_getr hX hK hH ck5 sh0 5 24 24 fr5_5 rfl q1_183 dX5_word_59 ?_
    refine w_getiN hX hK hE hH ck4 (sf5_5 sh0) 3 fi4_3 qn1_111 dX5_word_62 ?_
    refine lv_icmp_ge (tgt := 107) hx hb dX5_word_65 (by decide) (fun hc => ?_) (fun hc => ?_)
    · have hq := hq.1 hc
      exact s_X5_word_107  C0  v1 _ _ _ _ hq hH (lv_sub hl [0, 1] rfl)
    · have hq := hq.2 hc
      refine lv_aload_n hx hb dX5_word_68 rfl (lv_at hl 0 rfl) ?_
      refine w_getr hX hK hH ck5 sh0 0 1 1 fr5_0 rfl q1_178 dX5_word_69 ?_
      refine lv_aload_n hx hb dX5_word_72 rfl (lv_at hl 0 rfl) ?_
      refine w_getr hX hK hH ck5 sh0 5 24 24 fr5_5 rfl q1_183 dX5_word_73 ?_
      refine lv_iload_n hx hb dX5_word_76 rfl (lv_at hl 1 rfl) ?_
      obtain ⟨hp, hq⟩ := hq
      refine w_cIp hH (w_rV (As := [.int v1]) (rest := [.ref (b + 1)]) hX hK hE hH (c_X4_moveAt (sf5_5 sh0) _ _ hp) ck4 (sf5_5 sh0) q3_208 q2_46 q2_47 q1_5 q2_48 hd_X4_moveAt ⟨Nat.le_of_ble_eq_true rfl, Nat.le_of_ble_eq_true rfl⟩ ⟨rfl, rfl⟩ rfl hl.1 rfl (Nat.le_of_ble_eq_true rfl) dX5_word_77 ⟨Nat.zero_le _, Nat.zero_le _⟩) (fun r1  H locs hpo hH => ?_)
      have hq := hq r1  hpo
      obtain ⟨hp, hq⟩ := hq
      refine w_cIp hH (w_rV (As := [.int r1]) (rest := []) hX hK hE hH (c_X3_allows (sf5_0 sh0) _ _ hp) ck3 (sf5_0 sh0) q3_70 q2_149 q2_150 q1_2 q2_151 hd_X3_allows ⟨Nat.le_of_ble_eq_true rfl, Nat.le_of_ble_eq_true rfl⟩ ⟨rfl, rfl⟩ rfl hl.1 rfl (Nat.le_of_ble_eq_true rfl) dX5_word_80 ⟨Nat.zero_le _, Nat.zero_le _⟩) (fun r2  H locs hpo hH => ?_)
      have hq := hq r2  hpo
      refine lv_if_eq (tgt := 107) hx hb dX5_word_83 (by decide) (fun hc => ?_) (fun hc => ?_)
      · have hq := hq.1 hc
        exact s_X5_word_107  C0  v1 _ _ _ _ hq hH (lv_sub hl [0, 1] rfl)
      · have hq := hq.2 hc
        refine lv_aload_n hx hb dX5_word_86 rfl (lv_at hl 0 rfl) ?_
        refine w_getr hX hK hH ck5 sh0 0 1 1 fr5_0 rfl q1_178 dX5_word_87 ?_
        refine lv_aload_n hx hb dX5_word_90 rfl (lv_at hl 0 rfl) ?_
        refine w_getr hX hK hH ck5 sh0 5 24 24 fr5_5 rfl q1_183 dX5_word_91 ?_
        refine lv_iload_n hx hb dX5_word_94 rfl (lv_at hl 1 rfl) ?_
        obtain ⟨hp, hq⟩ := hq
        refine w_cIp hH (w_rV (As := [.int v1]) (rest := [.ref (b + 1)]) hX hK hE hH (c_X4_moveAt (sf5_5 sh0) _ _ hp) ck4 (sf5_5 sh0) q3_208 q2_46 q2_47 q1_5 q2_48 hd_X4_moveAt ⟨Nat.le_of_ble_eq_true rfl, Nat.le_of_ble_eq_true rfl⟩ ⟨rfl, rfl⟩ rfl hl.1 rfl (Nat.le_of_ble_eq_true rfl) dX5_word_95 ⟨Nat.zero_le _, Nat.zero_le _⟩) (fun r3  H locs hpo hH => ?_)
        have hq := hq r3  hpo
        obtain ⟨hp, hq⟩ := hq
        refine w_cV hH (w_rV (As := [.int r3]) (rest := []) hX hK hE hH (c_X3_doMove (sf5_0 sh0) _ _ hp) ck3 (sf5_0 sh0) q3_177 q3_178 q3_179 q1_2 q3_180 hd_X3_doMove ⟨Nat.le_of_ble_eq_true rfl, Nat.le_of_ble_eq_true rfl⟩ ⟨rfl, rfl⟩ rfl hl.1 rfl (Nat.le_of_ble_eq_true rfl) dX5_word_98 ⟨Nat.zero_le _, Nat.zero_le _⟩) (fun  I4 H locs hpo hH => ?_)
        have hq := hq  I4 hpo
        refine lv_iinc (v := (v1 + (1 : Int32))) (lv' := [(1, .int (v1 + (1 : Int32))), (0, .ref (b + 0))]) hx hb dX5_word_101 hl (k := 1) rfl rfl (by decide) rfl (fun ls hl => ?_)
        refine lv_goto (tgt := 57) hx hb dX5_word_104 (by decide) ?_
        exact hK57 (v1 + (1 : Int32)) _ _ _ _ hq hH (lv_sub hl [1, 0] rfl)
set_option maxRecDepth 100000 in
set_option maxHeartbeats 4000000 in
theorem c_X5_word {l : Launch} {D : va_G} {cs : wC4} {ad : Nat → Nat} {b : Nat} {G : wG}  (I : wI) (hp : pre_X5_word  I) : Met l yX5_word (ws_ yX5_word cX5_word 2 (some .int)) rm_X5_word (va_Pc [.ref (b + 0)] (wPr D cs ad b G I)) (va_Qi (fun r I' => post_X5_word  I r I') (wPo D cs b G) (fun q => b ≤ q)) 0 0 (fun q => b ≤ q) := by
  have hq := vc_X5_word  I hp
  refine w_met (by decide) (Nat.le_of_ble_eq_true rfl) ?_
  intro p e s m below meth c hX hr hlk hK hE hH ls hl
  have C0 : wCx p m c s _ meth cX5_word 2 RX5 (some .int) D cs ad b := ⟨hX, hr, hlk, hK, hE⟩
  have hX : CallFix p m c cX5_word 2 s _ lw_all RX5 := hX
  have hx := hX.1
  have hb := hX.2.1
  have hown := hX.2.2.2.1
  have hts := hX.2.2.2.2
  have hl : lv_has ls 2 [(0, .ref (b + 0))] := hl
  unfold v_X5_word at hq
  refine lv_aload_n hx hb dX5_word_0 rfl (lv_at hl 0 rfl) ?_
  refine w_getr hX hK hH ck5 sh0 5 24 24 fr5_5 rfl q1_183 dX5_word_1 ?_
  obtain ⟨hp, hq⟩ := hq
  refine w_cI hH (w_rV (As := []) (rest := []) hX hK hE hH (c_X4_read (sf5_5 sh0)  _ hp) ck4 (sf5_5 sh0) q2_25 q2_26 q2_27 q1_5 q2_28 hd_X4_read ⟨Nat.le_of_ble_eq_true rfl, Nat.le_of_ble_eq_true rfl⟩ ⟨rfl, rfl⟩ rfl hl.1 rfl (Nat.le_of_ble_eq_true rfl) dX5_word_4 ⟨Nat.zero_le _, Nat.zero_le _⟩) (fun r1 I2 H locs hpo hH => ?_)
  have hq := hq r1 I2 hpo
  refine lv_pop hx hb dX5_word_7 rfl ?_
  refine lv_aload_n hx hb dX5_word_8 rfl (lv_at hl 0 rfl) ?_
  refine w_getr hX hK hH ck5 sh0 5 24 24 fr5_5 rfl q1_183 dX5_word_9 ?_
  refine w_getiN hX hK hE hH ck4 (sf5_5 sh0) 4 fi4_4 qn1_113 dX5_word_12 ?_
  refine lv_if_ne (tgt := 28) hx hb dX5_word_15 (by decide) (fun hc => ?_) (fun hc => ?_)
  · have hq := hq.1 hc
    refine lv_aload_n hx hb dX5_word_28 rfl (lv_at hl 0 rfl) ?_
    refine w_getr hX hK hH ck5 sh0 5 24 24 fr5_5 rfl q1_183 dX5_word_29 ?_
    refine w_getiN hX hK hE hH ck4 (sf5_5 sh0) 3 fi4_3 qn1_111 dX5_word_32 ?_
    refine lv_sipush (v := 500) hx hb dX5_word_35 (by decide) ?_
    refine lv_icmp_le (tgt := 51) hx hb dX5_word_38 (by decide) (fun hc => ?_) (fun hc => ?_)
    · have hq := hq.1 hc
      refine lv_aload_n hx hb dX5_word_51 rfl (lv_at hl 0 rfl) ?_
      obtain ⟨hp, hq⟩ := hq
      refine w_cV hH (w_rV (As := []) (rest := []) hX hK hE hH (c_X5_save   _ hp) ck5 sh0 q1_210 q1_212 qs0 q1_1 q1_213 hd_X5_save ⟨Nat.le_of_ble_eq_true rfl, Nat.le_of_ble_eq_true rfl⟩ ⟨rfl, rfl⟩ rfl hl.1 rfl (Nat.le_of_ble_eq_true rfl) dX5_word_52 ⟨Nat.zero_le _, Nat.zero_le _⟩) (fun  I3 H locs hpo hH => ?_)
      have hq := hq  I3 hpo
      refine lv_iconst (v := 0) hx hb dX5_word_55 (by decide) ?_
      refine lv_istore_n (lv' := [(1, .int (0 : Int32)), (0, .ref (b + 0))]) hx hb dX5_word_56 rfl hl (by decide) rfl (fun ls hl => ?_)
      obtain ⟨f, hq⟩ := hq
      exact s_X5_word_57  C0  f (0 : Int32) _ _ _ _ hq hH (lv_sub hl [1, 0] rfl)
    · have hq := hq.2 hc
      exact hq.elim
  · have hq := hq.2 hc
    exact hq.elim
abbrev rm_X5_wordx : Room := { frames := 8, cells := 1, slots := 6, locals := 130 }

set_option maxRecDepth 100000 in
set_option maxHeartbeats 4000000 in
theorem s_X5_wordx_107 {X : String → wI → Prop} (hst : l.stackTraces = false) (hEx : ∀ x ∈ c.exceptionTable.toList, False) (C0 : wCx p m c s args meth cX5_word 2 RX5 (some .int) D cs ad b) : ∀ (v1 : Int32) (I : wI) (H : Heap) (locs : List Loc) (ls : Array Slot), v_X5_wordx_107 X v1 I → wH D cs b G I s H locs → lv_has ls 2 [(0, .ref (b + 0)), (1, .int v1)] → W p l e rm_X5_wordx s m args below meth c H locs 0 0 (vx_MQ below (va_Qi (fun (_ : Int32) (_ : wI) => False) (wPo D cs b G) (fun q => b ≤ q)) (wXC D cs b G X) args s 1 6 (fun q => b ≤ q)) (F0 m 107 ls []) := by
  obtain ⟨hX, hr, hlk, hK, hE⟩ := id C0
  have hx := hX.1
  have hb := hX.2.1
  have hown := hX.2.2.2.1
  have hts := hX.2.2.2.2
  intro v1 I H locs ls hq hH hl
  unfold v_X5_wordx_107 at hq
  refine lv_aload_n hx hb dX5_word_107 rfl (lv_at hl 0 rfl) ?_
  refine w_getr hX hK hH ck5 sh0 5 24 24 fr5_5 rfl q1_183 dX5_word_108 ?_
  refine lv_iconst (v := 0) hx hb dX5_word_111 (by decide) ?_
  refine w_putiN hX hK hE hH ck4 (sf5_5 sh0) 1 fw4_1 qn1_108 dX5_word_112 (fun I1 H locs hI hH => ?_)
  have hq := hq I1 hI
  refine lv_iload_n hx hb dX5_word_115 rfl (lv_at hl 1 rfl) ?_
  exact hq.elim
set_option maxRecDepth 100000 in
set_option maxHeartbeats 4000000 in
theorem s_X5_wordx_57 {X : String → wI → Prop} (hst : l.stackTraces = false) (hEx : ∀ x ∈ c.exceptionTable.toList, False) (C0 : wCx p m c s args meth cX5_word 2 RX5 (some .int) D cs ad b) : ∀ (f : Nat) (v1 : Int32) (I : wI) (H : Heap) (locs : List Loc) (ls : Array Slot), v_X5_wordx_57 X f v1 I → wH D cs b G I s H locs → lv_has ls 2 [(0, .ref (b + 0)), (1, .int v1)] → W p l e rm_X5_wordx s m args below meth c H locs 0 0 (vx_MQ below (va_Qi (fun (_ : Int32) (_ : wI) => False) (wPo D cs b G) (fun q => b ≤ q)) (wXC D cs b G X) args s 1 6 (fun q => b ≤ q)) (F0 m 57 ls []) := by
  obtain ⟨hX, hr, hlk, hK, hE⟩ := id C0
  have hx := hX.1
  have hb := hX.2.1
  have hown := hX.2.2.2.1
  have hts := hX.2.2.2.2
  intro f
  induction f with
  | zero =>
    intro v1 I H locs ls hq
    exact hq.elim
  | succ f hK57 =>
    intro v1 I H locs ls hq hH hl
    have hq : g_X5_wordx_57 X (v_X5_wordx_57 X f) v1 I := hq
    unfold g_X5_wordx_57 at hq
    refine lv_iload_n hx hb dX5_word_57 rfl (lv_at hl 1 rfl) ?_
    refine lv_aload_n hx hb dX5_word_58 rfl (lv_at hl 0 rfl) ?_
    refine w_getr hX hK hH ck5 sh0 5 24 24 fr5_5 rfl q1_183 dX5_word_59 ?_
    refine w_getiN hX hK hE hH ck4 (sf5_5 sh0) 3 fi4_3 qn1_111 dX5_word_62 ?_
    refine lv_icmp_ge (tgt := 107) hx hb dX5_word_65 (by decide) (fun hc => ?_) (fun hc => ?_)
    · have hq := hq.1 hc
      exact s_X5_wordx_107 hst hEx C0  v1 _ _ _ _ hq hH (lv_sub hl [0, 1] rfl)
    · have hq := hq.2 hc
      refine lv_aload_n hx hb dX5_word_68 rfl (lv_at hl 0 rfl) ?_
      refine w_getr hX hK hH ck5 sh0 0 1 1 fr5_0 rfl q1_178 dX5_word_69 ?_
      refine lv_aload_n hx hb dX5_word_72 rfl (lv_at hl 0 rfl) ?_
      refine w_getr hX hK hH ck5 sh0 5 24 24 fr5_5 rfl q1_183 dX5_word_73 ?_
      refine lv_iload_n hx hb dX5_word_76 rfl (lv_at hl 1 rfl) ?_
      obtain ⟨hp, hq⟩ := hq
      refine w_cIp hH (w_rV (As := [.int v1]) (rest := [.ref (b + 1)]) hX hK hE hH (c_X4_moveAt (sf5_5 sh0) _ _ hp) ck4 (sf5_5 sh0) q3_208 q2_46 q2_47 q1_5 q2_48 hd_X4_moveAt ⟨Nat.le_of_ble_eq_true rfl, Nat.le_of_ble_eq_true rfl⟩ ⟨rfl, rfl⟩ rfl hl.1 rfl (Nat.le_of_ble_eq_true rfl) dX5_word_77 ⟨Nat.zero_le _, Nat.zero_le _⟩) (fun r1  H locs hpo hH => ?_)
      have hq := hq r1  hpo
      obtain ⟨hp, hq⟩ := hq
      refine w_cIp hH (w_rV (As := [.int r1]) (rest := []) hX hK hE hH (c_X3_allows (sf5_0 sh0) _ _ hp) ck3 (sf5_0 sh0) q3_70 q2_149 q2_150 q1_2 q2_151 hd_X3_allows ⟨Nat.le_of_ble_eq_true rfl, Nat.le_of_ble_eq_true rfl⟩ ⟨rfl, rfl⟩ rfl hl.1 rfl (Nat.le_of_ble_eq_true rfl) dX5_word_80 ⟨Nat.zero_le _, Nat.zero_le _⟩) (fun r2  H locs hpo hH => ?_)
      have hq := hq r2  hpo
      refine lv_if_eq (tgt := 107) hx hb dX5_word_83 (by decide) (fun hc => ?_) (fun hc => ?_)
      · have hq := hq.1 hc
        exact s_X5_wordx_107 hst hEx C0  v1 _ _ _ _ hq hH (lv_sub hl [0, 1] rfl)
      · have hq := hq.2 hc
        refine lv_aload_n hx hb dX5_word_86 rfl (lv_at hl 0 rfl) ?_
        refine w_getr hX hK hH ck5 sh0 0 1 1 fr5_0 rfl q1_178 dX5_word_87 ?_
        refine lv_aload_n hx hb dX5_word_90 rfl (lv_at hl 0 rfl) ?_
        refine w_getr hX hK hH ck5 sh0 5 24 24 fr5_5 rfl q1_183 dX5_word_91 ?_
        refine lv_iload_n hx hb dX5_word_94 rfl (lv_at hl 1 rfl) ?_
        obtain ⟨hp, hq⟩ := hq
        refine w_cIp hH (w_rV (As := [.int v1]) (rest := [.ref (b + 1)]) hX hK hE hH (c_X4_moveAt (sf5_5 sh0) _ _ hp) ck4 (sf5_5 sh0) q3_208 q2_46 q2_47 q1_5 q2_48 hd_X4_moveAt ⟨Nat.le_of_ble_eq_true rfl, Nat.le_of_ble_eq_true rfl⟩ ⟨rfl, rfl⟩ rfl hl.1 rfl (Nat.le_of_ble_eq_true rfl) dX5_word_95 ⟨Nat.zero_le _, Nat.zero_le _⟩) (fun r3  H locs hpo hH => ?_)
        have hq := hq r3  hpo
        obtain ⟨hp, hq⟩ := hq
        refine w_cV hH (w_rV (As := [.int r3]) (rest := []) hX hK hE hH (c_X3_doMove (sf5_0 sh0) _ _ hp) ck3 (sf5_0 sh0) q3_177 q3_178 q3_179 q1_2 q3_180 hd_X3_doMove ⟨Nat.le_of_ble_eq_true rfl, Nat.le_of_ble_eq_true rfl⟩ ⟨rfl, rfl⟩ rfl hl.1 rfl (Nat.le_of_ble_eq_true rfl) dX5_word_98 ⟨Nat.zero_le _, Nat.zero_le _⟩) (fun  I4 H locs hpo hH => ?_)
        have hq := hq  I4 hpo
        refine lv_iinc (v := (v1 + (1 : Int32))) (lv' := [(1, .int (v1 + (1 : Int32))), (0, .ref (b + 0))]) hx hb dX5_word_101 hl (k := 1) rfl rfl (by decide) rfl (fun ls hl => ?_)
        refine lv_goto (tgt := 57) hx hb dX5_word_104 (by decide) ?_
        exact hK57 (v1 + (1 : Int32)) _ _ _ _ hq hH (lv_sub hl [1, 0] rfl)
set_option maxRecDepth 100000 in
set_option maxHeartbeats 4000000 in
theorem c_X5_wordx {l : Launch} {D : va_G} {cs : wC4} {ad : Nat → Nat} {b : Nat} {G : wG} (hst : l.stackTraces = false)  (I : wI) (hp : pre_X5_wordx  I) : vx_Met l yX5_word (ws_ yX5_word cX5_word 2 (some .int)) rm_X5_wordx (va_Pc [.ref (b + 0)] (wPr D cs ad b G I)) (va_Qi (fun (_ : Int32) (_ : wI) => False) (wPo D cs b G) (fun q => b ≤ q)) (wXC D cs b G (exc_X5_word  I)) 1 6 (fun q => b ≤ q) := by
  have hq := vc_X5_wordx  I hp
  refine w_metx (by decide) (Nat.le_of_ble_eq_true rfl) ?_
  intro p e s m below meth c hX hr hlk hEx hK hE hH ls hl
  have C0 : wCx p m c s _ meth cX5_word 2 RX5 (some .int) D cs ad b := ⟨hX, hr, hlk, hK, hE⟩
  have hX : CallFix p m c cX5_word 2 s _ lw_all RX5 := hX
  have hx := hX.1
  have hb := hX.2.1
  have hown := hX.2.2.2.1
  have hts := hX.2.2.2.2
  have hl : lv_has ls 2 [(0, .ref (b + 0))] := hl
  unfold v_X5_wordx at hq
  refine lv_aload_n hx hb dX5_word_0 rfl (lv_at hl 0 rfl) ?_
  refine w_getr hX hK hH ck5 sh0 5 24 24 fr5_5 rfl q1_183 dX5_word_1 ?_
  obtain ⟨hp, hq⟩ := hq
  refine w_cI hH (w_rV (As := []) (rest := []) hX hK hE hH (c_X4_read (sf5_5 sh0)  _ hp) ck4 (sf5_5 sh0) q2_25 q2_26 q2_27 q1_5 q2_28 hd_X4_read ⟨Nat.le_of_ble_eq_true rfl, Nat.le_of_ble_eq_true rfl⟩ ⟨rfl, rfl⟩ rfl hl.1 rfl (Nat.le_of_ble_eq_true rfl) dX5_word_4 ⟨Nat.zero_le _, Nat.zero_le _⟩) (fun r1 I2 H locs hpo hH => ?_)
  have hq := hq r1 I2 hpo
  refine lv_pop hx hb dX5_word_7 rfl ?_
  refine lv_aload_n hx hb dX5_word_8 rfl (lv_at hl 0 rfl) ?_
  refine w_getr hX hK hH ck5 sh0 5 24 24 fr5_5 rfl q1_183 dX5_word_9 ?_
  refine w_getiN hX hK hE hH ck4 (sf5_5 sh0) 4 fi4_4 qn1_113 dX5_word_12 ?_
  refine lv_if_ne (tgt := 28) hx hb dX5_word_15 (by decide) (fun hc => ?_) (fun hc => ?_)
  · have hq := hq.1 hc
    refine lv_aload_n hx hb dX5_word_28 rfl (lv_at hl 0 rfl) ?_
    refine w_getr hX hK hH ck5 sh0 5 24 24 fr5_5 rfl q1_183 dX5_word_29 ?_
    refine w_getiN hX hK hE hH ck4 (sf5_5 sh0) 3 fi4_3 qn1_111 dX5_word_32 ?_
    refine lv_sipush (v := 500) hx hb dX5_word_35 (by decide) ?_
    refine lv_icmp_le (tgt := 51) hx hb dX5_word_38 (by decide) (fun hc => ?_) (fun hc => ?_)
    · have hq := hq.1 hc
      refine lv_aload_n hx hb dX5_word_51 rfl (lv_at hl 0 rfl) ?_
      obtain ⟨hp, hq⟩ := hq
      refine w_cV hH (w_rV (As := []) (rest := []) hX hK hE hH (c_X5_save   _ hp) ck5 sh0 q1_210 q1_212 qs0 q1_1 q1_213 hd_X5_save ⟨Nat.le_of_ble_eq_true rfl, Nat.le_of_ble_eq_true rfl⟩ ⟨rfl, rfl⟩ rfl hl.1 rfl (Nat.le_of_ble_eq_true rfl) dX5_word_52 ⟨Nat.zero_le _, Nat.zero_le _⟩) (fun  I3 H locs hpo hH => ?_)
      have hq := hq  I3 hpo
      refine lv_iconst (v := 0) hx hb dX5_word_55 (by decide) ?_
      refine lv_istore_n (lv' := [(1, .int (0 : Int32)), (0, .ref (b + 0))]) hx hb dX5_word_56 rfl hl (by decide) rfl (fun ls hl => ?_)
      obtain ⟨f, hq⟩ := hq
      exact s_X5_wordx_57 hst hEx C0  f (0 : Int32) _ _ _ _ hq hH (lv_sub hl [1, 0] rfl)
    · have hq := hq.2 hc
      exact w_throw th_X5_76_78_80 hX hst hlk hEx hE hH hl.1 dX5_word_41 dX5_word_44 dX5_word_45 dX5_word_47 dX5_word_50 ⟨Nat.le_of_ble_eq_true rfl, Nat.le_of_ble_eq_true rfl, Nat.le_of_ble_eq_true rfl, Nat.le_of_ble_eq_true rfl⟩ hq
  · have hq := hq.2 hc
    exact w_throw th_X5_66_68_70 hX hst hlk hEx hE hH hl.1 dX5_word_18 dX5_word_21 dX5_word_22 dX5_word_24 dX5_word_27 ⟨Nat.le_of_ble_eq_true rfl, Nat.le_of_ble_eq_true rfl, Nat.le_of_ble_eq_true rfl, Nat.le_of_ble_eq_true rfl⟩ hq
abbrev rm_X0_reach : Room := { frames := 0, cells := 0, slots := 0, locals := 0 }
theorem hd_X0_reach : yX0_reach.cls = RX0 ∧ yX0_reach.cls ≠ "java/lang/invoke/MethodHandle" ∧ yX0_reach.cls ≠ "java/lang/invoke/VarHandle" ∧ (parseMethodDescriptor yX0_reach.desc).map (fun d => d.parameters.length) = some 0 := by decide +kernel
set_option maxRecDepth 100000 in
set_option maxHeartbeats 4000000 in
theorem s_X0_reach_35 {k : Nat} {I : wI} {Q : Int32 → Prop} {K4 : Int32 → Int32 → Prop} (hs : wSh k = (0, 0)) (C0 : wCx p m c s args meth cX0_reach 3 RX0 (some .int) D cs ad b) (hK4 : ∀ (v1 : Int32) (v2 : Int32) (H : Heap) (locs : List Loc) (ls : Array Slot), K4 v1 v2 → wH D cs b G I s H locs → lv_has ls 3 [(0, .ref (b + k)), (1, .int v1), (2, .int v2)] → W p l e rm_X0_reach s m args below meth c H locs 0 0 (MQ below (va_Qi (fun r I' => I' = I ∧ Q r) (wPo D cs b G) (fun q => b ≤ q)) args s 0 0 (fun q => b ≤ q)) (F0 m 4 ls [])) : ∀ (v1 : Int32) (v2 : Int32) (H : Heap) (locs : List Loc) (ls : Array Slot), v_X0_reach_35 k I Q K4 v1 v2 → wH D cs b G I s H locs → lv_has ls 3 [(0, .ref (b + k)), (1, .int v1), (2, .int v2)] → W p l e rm_X0_reach s m args below meth c H locs 0 0 (MQ below (va_Qi (fun r I' => I' = I ∧ Q r) (wPo D cs b G) (fun q => b ≤ q)) args s 0 0 (fun q => b ≤ q)) (F0 m 35 ls []) := by
  obtain ⟨hX, hr, hlk, hK, hE⟩ := id C0
  have hx := hX.1
  have hb := hX.2.1
  have hown := hX.2.2.2.1
  have hts := hX.2.2.2.2
  intro v1 v2 H locs ls hq hH hl
  unfold v_X0_reach_35 at hq
  refine lv_iinc (v := (v2 + (1 : Int32))) (lv' := [(2, .int (v2 + (1 : Int32))), (0, .ref (b + k)), (1, .int v1)]) hx hb dX0_reach_35 hl (k := 2) rfl rfl (by decide) rfl (fun ls hl => ?_)
  refine lv_goto (tgt := 4) hx hb dX0_reach_38 (by decide) ?_
  exact hK4 v1 (v2 + (1 : Int32)) _ _ _ hq hH (lv_sub hl [1, 2, 0] rfl)
set_option maxRecDepth 100000 in
set_option maxHeartbeats 4000000 in
theorem s_X0_reach_29 {k : Nat} {I : wI} {Q : Int32 → Prop} {K4 : Int32 → Int32 → Prop} (hs : wSh k = (0, 0)) (C0 : wCx p m c s args meth cX0_reach 3 RX0 (some .int) D cs ad b) (hK4 : ∀ (v1 : Int32) (v2 : Int32) (H : Heap) (locs : List Loc) (ls : Array Slot), K4 v1 v2 → wH D cs b G I s H locs → lv_has ls 3 [(0, .ref (b + k)), (1, .int v1), (2, .int v2)] → W p l e rm_X0_reach s m args below meth c H locs 0 0 (MQ below (va_Qi (fun r I' => I' = I ∧ Q r) (wPo D cs b G) (fun q => b ≤ q)) args s 0 0 (fun q => b ≤ q)) (F0 m 4 ls [])) : ∀ (v1 : Int32) (v2 : Int32) (H : Heap) (locs : List Loc) (ls : Array Slot), v_X0_reach_29 k I Q K4 v1 v2 → wH D cs b G I s H locs → lv_has ls 3 [(0, .ref (b + k)), (1, .int v1), (2, .int v2)] → W p l e rm_X0_reach s m args below meth c H locs 0 0 (MQ below (va_Qi (fun r I' => I' = I ∧ Q r) (wPo D cs b G) (fun q => b ≤ q)) args s 0 0 (fun q => b ≤ q)) (F0 m 29 ls []) := by
  obtain ⟨hX, hr, hlk, hK, hE⟩ := id C0
  have hx := hX.1
  have hb := hX.2.1
  have hown := hX.2.2.2.1
  have hts := hX.2.2.2.2
  intro v1 v2 H locs ls hq hH hl
  unfold v_X0_reach_29 at hq
  refine lv_iload_n hx hb dX0_reach_29 rfl (lv_at hl 1 rfl) ?_
  refine lv_iconst (v := 1) hx hb dX0_reach_30 (by decide) ?_
  refine lv_iload_n hx hb dX0_reach_31 rfl (lv_at hl 2 rfl) ?_
  refine lv_ishl hx hb dX0_reach_32 ?_
  refine lv_ior hx hb dX0_reach_33 ?_
  refine lv_istore_n (lv' := [(1, .int (v1 ||| ((1 : Int32) <<< (v2 &&& 31)))), (0, .ref (b + k)), (2, .int v2)]) hx hb dX0_reach_34 rfl hl (by decide) rfl (fun ls hl => ?_)
  exact s_X0_reach_35 hs C0 hK4 (v1 ||| ((1 : Int32) <<< (v2 &&& 31))) v2 _ _ _ hq hH (lv_sub hl [1, 0, 2] rfl)
set_option maxRecDepth 100000 in
set_option maxHeartbeats 4000000 in
theorem s_X0_reach_4 {k : Nat} {I : wI} {Q : Int32 → Prop} (hs : wSh k = (0, 0)) (C0 : wCx p m c s args meth cX0_reach 3 RX0 (some .int) D cs ad b) : ∀ (f : Nat) (v1 : Int32) (v2 : Int32) (H : Heap) (locs : List Loc) (ls : Array Slot), v_X0_reach_4 k I Q f v1 v2 → wH D cs b G I s H locs → lv_has ls 3 [(0, .ref (b + k)), (1, .int v1), (2, .int v2)] → W p l e rm_X0_reach s m args below meth c H locs 0 0 (MQ below (va_Qi (fun r I' => I' = I ∧ Q r) (wPo D cs b G) (fun q => b ≤ q)) args s 0 0 (fun q => b ≤ q)) (F0 m 4 ls []) := by
  obtain ⟨hX, hr, hlk, hK, hE⟩ := id C0
  have hx := hX.1
  have hb := hX.2.1
  have hown := hX.2.2.2.1
  have hts := hX.2.2.2.2
  intro f
  induction f with
  | zero =>
    intro v1 v2 H locs ls hq
    exact hq.elim
  | succ f hK4 =>
    intro v1 v2 H locs ls hq hH hl
    have hq : g_X0_reach_4 k I Q (v_X0_reach_4 k I Q f) v1 v2 := hq
    unfold g_X0_reach_4 at hq
    refine lv_iload_n hx hb dX0_reach_4 rfl (lv_at hl 2 rfl) ?_
    refine lv_bipush (v := 6) hx hb dX0_reach_5 (by decide) ?_
    refine lv_icmp_ge (tgt := 41) hx hb dX0_reach_7 (by decide) (fun hc => ?_) (fun hc => ?_)
    · have hq := hq.1 hc
      refine lv_iload_n hx hb dX0_reach_41 rfl (lv_at hl 1 rfl) ?_
      exact w_eI hX hr hlk hH ⟨rfl, hq⟩ dX0_reach_42
    · have hq := hq.2 hc
      refine lv_aload_n hx hb dX0_reach_10 rfl (lv_at hl 0 rfl) ?_
      refine w_getr hX hK hH ck0 hs 0 1 (k + 1) fr0_0 rfl q1_38 dX0_reach_11 ?_
      refine lv_iload_n hx hb dX0_reach_14 rfl (lv_at hl 2 rfl) ?_
      obtain ⟨hc, hq⟩ := hq
      refine w_iald hX hK hH (sf0_0 hs) hc dX0_reach_15 ?_
      refine lv_iload_n hx hb dX0_reach_16 rfl (lv_at hl 2 rfl) ?_
      refine lv_icmp_ne (tgt := 29) hx hb dX0_reach_17 (by decide) (fun hc => ?_) (fun hc => ?_)
      · have hq := hq.1 hc
        exact s_X0_reach_29 hs C0 hK4 v1 v2 _ _ _ hq hH (lv_sub hl [0, 1, 2] rfl)
      · have hq := hq.2 hc
        refine lv_aload_n hx hb dX0_reach_20 rfl (lv_at hl 0 rfl) ?_
        refine w_getr hX hK hH ck0 hs 1 2 (k + 2) fr0_1 rfl q1_39 dX0_reach_21 ?_
        refine lv_iload_n hx hb dX0_reach_24 rfl (lv_at hl 2 rfl) ?_
        obtain ⟨hc, hq⟩ := hq
        refine w_iald hX hK hH (sf0_1 hs) hc dX0_reach_25 ?_
        refine lv_if_eq (tgt := 35) hx hb dX0_reach_26 (by decide) (fun hc => ?_) (fun hc => ?_)
        · have hq := hq.1 hc
          exact s_X0_reach_35 hs C0 hK4 v1 v2 _ _ _ hq hH (lv_sub hl [0, 1, 2] rfl)
        · have hq := hq.2 hc
          exact s_X0_reach_29 hs C0 hK4 v1 v2 _ _ _ hq hH (lv_sub hl [0, 1, 2] rfl)
set_option maxRecDepth 100000 in
set_option maxHeartbeats 4000000 in
theorem c_X0_reach {l : Launch} {D : va_G} {cs : wC4} {ad : Nat → Nat} {b : Nat} {G : wG} {k : Nat} (hs : wSh k = (0, 0))  (I : wI) (hp : pre_X0_reach k I) : Met l yX0_reach (ws_ yX0_reach cX0_reach 3 (some .int)) rm_X0_reach (va_Pc [.ref (b + k)] (wPr D cs ad b G I)) (va_Qi (fun r I' => I' = I ∧ post_X0_reach k I r) (wPo D cs b G) (fun q => b ≤ q)) 0 0 (fun q => b ≤ q) := by
  have hq := vc_X0_reach k I hp
  refine w_met (by decide) (Nat.le_of_ble_eq_true rfl) ?_
  intro p e s m below meth c hX hr hlk hK hE hH ls hl
  have C0 : wCx p m c s _ meth cX0_reach 3 RX0 (some .int) D cs ad b := ⟨hX, hr, hlk, hK, hE⟩
  have hX : CallFix p m c cX0_reach 3 s _ lw_all RX0 := hX
  have hx := hX.1
  have hb := hX.2.1
  have hown := hX.2.2.2.1
  have hts := hX.2.2.2.2
  have hl : lv_has ls 3 [(0, .ref (b + k))] := hl
  unfold v_X0_reach at hq
  refine lv_iconst (v := 0) hx hb dX0_reach_0 (by decide) ?_
  refine lv_istore_n (lv' := [(1, .int (0 : Int32)), (0, .ref (b + k))]) hx hb dX0_reach_1 rfl hl (by decide) rfl (fun ls hl => ?_)
  refine lv_iconst (v := 0) hx hb dX0_reach_2 (by decide) ?_
  refine lv_istore_n (lv' := [(2, .int (0 : Int32)), (1, .int (0 : Int32)), (0, .ref (b + k))]) hx hb dX0_reach_3 rfl hl (by decide) rfl (fun ls hl => ?_)
  obtain ⟨f, hq⟩ := hq
  exact s_X0_reach_4 hs C0  f (0 : Int32) (0 : Int32) _ _ _ hq hH (lv_sub hl [2, 1, 0] rfl)
abbrev rm_X0_bringHome : Room := { frames := 0, cells := 0, slots := 0, locals := 0 }
theorem hd_X0_bringHome : yX0_bringHome.cls = RX0 ∧ yX0_bringHome.cls ≠ "java/lang/invoke/MethodHandle" ∧ yX0_bringHome.cls ≠ "java/lang/invoke/VarHandle" ∧ (parseMethodDescriptor yX0_bringHome.desc).map (fun d => d.parameters.length) = some 0 := by decide +kernel
set_option maxRecDepth 100000 in
set_option maxHeartbeats 4000000 in
theorem s_X0_bringHome_2 {k : Nat} {Q : wI → Prop} (hs : wSh k = (0, 0)) (C0 : wCx p m c s args meth cX0_bringHome 2 RX0 none D cs ad b) : ∀ (f : Nat) (v1 : Int32) (I : wI) (H : Heap) (locs : List Loc) (ls : Array Slot), v_X0_bringHome_2 k Q f v1 I → wH D cs b G I s H locs → lv_has ls 2 [(0, .ref (b + k)), (1, .int v1)] → W p l e rm_X0_bringHome s m args below meth c H locs 0 0 (MQ below (va_Qv (Q) (wPo D cs b G) (fun q => b ≤ q)) args s 0 0 (fun q => b ≤ q)) (F0 m 2 ls []) := by
  obtain ⟨hX, hr, hlk, hK, hE⟩ := id C0
  have hx := hX.1
  have hb := hX.2.1
  have hown := hX.2.2.2.1
  have hts := hX.2.2.2.2
  intro f
  induction f with
  | zero =>
    intro v1 I H locs ls hq
    exact hq.elim
  | succ f hK2 =>
    intro v1 I H locs ls hq hH hl
    have hq : g_X0_bringHome_2 k Q (v_X0_bringHome_2 k Q f) v1 I := hq
    unfold g_X0_bringHome_2 at hq
    refine lv_iload_n hx hb dX0_bringHome_2 rfl (lv_at hl 1 rfl) ?_
    refine lv_bipush (v := 6) hx hb dX0_bringHome_3 (by decide) ?_
    refine lv_icmp_ge (tgt := 28) hx hb dX0_bringHome_5 (by decide) (fun hc => ?_) (fun hc => ?_)
    · have hq := hq.1 hc
      exact w_eV hX hr hlk hH hq dX0_bringHome_28
    · have hq := hq.2 hc
      refine lv_aload_n hx hb dX0_bringHome_8 rfl (lv_at hl 0 rfl) ?_
      refine w_getr hX hK hH ck0 hs 0 1 (k + 1) fr0_0 rfl q1_38 dX0_bringHome_9 ?_
      refine lv_iload_n hx hb dX0_bringHome_12 rfl (lv_at hl 1 rfl) ?_
      refine lv_iload_n hx hb dX0_bringHome_13 rfl (lv_at hl 1 rfl) ?_
      obtain ⟨hc, hq⟩ := hq
      refine w_iast hX hK hH (sf0_0 hs) hc dX0_bringHome_14 (fun I1 H locs hI hH => ?_)
      have hq := hq I1 hI
      refine lv_aload_n hx hb dX0_bringHome_15 rfl (lv_at hl 0 rfl) ?_
      refine w_getr hX hK hH ck0 hs 1 2 (k + 2) fr0_1 rfl q1_39 dX0_bringHome_16 ?_
      refine lv_iload_n hx hb dX0_bringHome_19 rfl (lv_at hl 1 rfl) ?_
      refine lv_iconst (v := 0) hx hb dX0_bringHome_20 (by decide) ?_
      obtain ⟨hc, hq⟩ := hq
      refine w_iast hX hK hH (sf0_1 hs) hc dX0_bringHome_21 (fun I2 H locs hI hH => ?_)
      have hq := hq I2 hI
      refine lv_iinc (v := (v1 + (1 : Int32))) (lv' := [(1, .int (v1 + (1 : Int32))), (0, .ref (b + k))]) hx hb dX0_bringHome_22 hl (k := 1) rfl rfl (by decide) rfl (fun ls hl => ?_)
      refine lv_goto (tgt := 2) hx hb dX0_bringHome_25 (by decide) ?_
      exact hK2 (v1 + (1 : Int32)) _ _ _ _ hq hH (lv_sub hl [1, 0] rfl)
set_option maxRecDepth 100000 in
set_option maxHeartbeats 4000000 in
theorem c_X0_bringHome {l : Launch} {D : va_G} {cs : wC4} {ad : Nat → Nat} {b : Nat} {G : wG} {k : Nat} (hs : wSh k = (0, 0))  (I : wI) (hp : pre_X0_bringHome k I) : Met l yX0_bringHome (ws_ yX0_bringHome cX0_bringHome 2 none) rm_X0_bringHome (va_Pc [.ref (b + k)] (wPr D cs ad b G I)) (va_Qv (fun I' => post_X0_bringHome k I I') (wPo D cs b G) (fun q => b ≤ q)) 0 0 (fun q => b ≤ q) := by
  have hq := vc_X0_bringHome k I hp
  refine w_met (by decide) (Nat.le_of_ble_eq_true rfl) ?_
  intro p e s m below meth c hX hr hlk hK hE hH ls hl
  have C0 : wCx p m c s _ meth cX0_bringHome 2 RX0 none D cs ad b := ⟨hX, hr, hlk, hK, hE⟩
  have hX : CallFix p m c cX0_bringHome 2 s _ lw_all RX0 := hX
  have hx := hX.1
  have hb := hX.2.1
  have hown := hX.2.2.2.1
  have hts := hX.2.2.2.2
  have hl : lv_has ls 2 [(0, .ref (b + k))] := hl
  unfold v_X0_bringHome at hq
  refine lv_iconst (v := 0) hx hb dX0_bringHome_0 (by decide) ?_
  refine lv_istore_n (lv' := [(1, .int (0 : Int32)), (0, .ref (b + k))]) hx hb dX0_bringHome_1 rfl hl (by decide) rfl (fun ls hl => ?_)
  obtain ⟨f, hq⟩ := hq
  exact s_X0_bringHome_2 hs C0  f (0 : Int32) _ _ _ _ hq hH (lv_sub hl [1, 0] rfl)
abbrev rm_X5_home : Room := { frames := 4, cells := 0, slots := 0, locals := 85 }
theorem hd_X5_home : yX5_home.cls = RX5 ∧ yX5_home.cls ≠ "java/lang/invoke/MethodHandle" ∧ yX5_home.cls ≠ "java/lang/invoke/VarHandle" ∧ (parseMethodDescriptor yX5_home.desc).map (fun d => d.parameters.length) = some 0 := by decide +kernel
set_option maxRecDepth 100000 in
set_option maxHeartbeats 4000000 in
theorem c_X5_home {l : Launch} {D : va_G} {cs : wC4} {ad : Nat → Nat} {b : Nat} {G : wG}  (I : wI) (hp : pre_X5_home  I) : Met l yX5_home (ws_ yX5_home cX5_home 2 (some .int)) rm_X5_home (va_Pc [.ref (b + 0)] (wPr D cs ad b G I)) (va_Qi (fun r I' => post_X5_home  I r I') (wPo D cs b G) (fun q => b ≤ q)) 0 0 (fun q => b ≤ q) := by
  have hq := vc_X5_home  I hp
  refine w_met (by decide) (Nat.le_of_ble_eq_true rfl) ?_
  intro p e s m below meth c hX hr hlk hK hE hH ls hl
  have C0 : wCx p m c s _ meth cX5_home 2 RX5 (some .int) D cs ad b := ⟨hX, hr, hlk, hK, hE⟩
  have hX : CallFix p m c cX5_home 2 s _ lw_all RX5 := hX
  have hx := hX.1
  have hb := hX.2.1
  have hown := hX.2.2.2.1
  have hts := hX.2.2.2.2
  have hl : lv_has ls 2 [(0, .ref (b + 0))] := hl
  unfold v_X5_home at hq
  refine lv_aload_n hx hb dX5_home_0 rfl (lv_at hl 0 rfl) ?_
  obtain ⟨hp, hq⟩ := hq
  refine w_cV hH (w_rV (As := []) (rest := []) hX hK hE hH (c_X5_save   _ hp) ck5 sh0 q1_210 q1_212 qs0 q1_1 q1_213 hd_X5_save ⟨Nat.le_of_ble_eq_true rfl, Nat.le_of_ble_eq_true rfl⟩ ⟨rfl, rfl⟩ rfl hl.1 rfl (Nat.le_of_ble_eq_true rfl) dX5_home_1 ⟨Nat.zero_le _, Nat.zero_le _⟩) (fun  I1 H locs hpo hH => ?_)
  have hq := hq  I1 hpo
  refine lv_aload_n hx hb dX5_home_4 rfl (lv_at hl 0 rfl) ?_
  refine w_getr hX hK hH ck5 sh0 0 1 1 fr5_0 rfl q1_178 dX5_home_5 ?_
  refine w_getrN hX hK hE hH ck3 (sf5_0 sh0) 0 1 2 fr3_0 rfl qn1_61 dX5_home_8 ?_
  obtain ⟨hp, hq⟩ := hq
  refine w_cIp hH (w_rV (As := []) (rest := []) hX hK hE hH (c_X0_reach (sf3_0 (sf5_0 sh0))  _ hp) ck0 (sf3_0 (sf5_0 sh0)) q1_234 q1_235 q1_236 q1_3 q1_237 hd_X0_reach ⟨Nat.le_of_ble_eq_true rfl, Nat.le_of_ble_eq_true rfl⟩ ⟨rfl, rfl⟩ rfl hl.1 rfl (Nat.le_of_ble_eq_true rfl) dX5_home_11 ⟨Nat.zero_le _, Nat.zero_le _⟩) (fun r2  H locs hpo hH => ?_)
  have hq := hq r2  hpo
  obtain ⟨hp, hq⟩ := hq
  refine w_cIp hH (w_rS (As := [.int r2]) (rest := []) hX hK hE hH (c_J_bitCount  _ _ hp) q1_238 q1_239 q1_13 q2_0 hd_J_bitCount.2 ⟨Nat.le_of_ble_eq_true rfl, Nat.le_of_ble_eq_true rfl⟩ ⟨rfl, rfl⟩ rfl hl.1 rfl (Nat.le_of_ble_eq_true rfl) dX5_home_14 ⟨Nat.zero_le _, Nat.zero_le _⟩) (fun r3  H locs hpo hH => ?_)
  have hq := hq r3  hpo
  refine lv_istore_n (lv' := [(1, .int r3), (0, .ref (b + 0))]) hx hb dX5_home_17 rfl hl (by decide) rfl (fun ls hl => ?_)
  refine lv_aload_n hx hb dX5_home_18 rfl (lv_at hl 1 rfl) ?_
  refine w_getr hX hK hH ck5 sh0 0 1 1 fr5_0 rfl q1_178 dX5_home_19 ?_
  refine w_getrN hX hK hE hH ck3 (sf5_0 sh0) 0 1 2 fr3_0 rfl qn1_61 dX5_home_22 ?_
  obtain ⟨hp, hq⟩ := hq
  refine w_cV hH (w_rV (As := []) (rest := []) hX hK hE hH (c_X0_bringHome (sf3_0 (sf5_0 sh0))  _ hp) ck0 (sf3_0 (sf5_0 sh0)) q2_4 q2_5 q2_6 q1_3 q2_7 hd_X0_bringHome ⟨Nat.le_of_ble_eq_true rfl, Nat.le_of_ble_eq_true rfl⟩ ⟨rfl, rfl⟩ rfl hl.1 rfl (Nat.le_of_ble_eq_true rfl) dX5_home_25 ⟨Nat.zero_le _, Nat.zero_le _⟩) (fun  I4 H locs hpo hH => ?_)
  have hq := hq  I4 hpo
  refine lv_aload_n hx hb dX5_home_28 rfl (lv_at hl 1 rfl) ?_
  refine w_getr hX hK hH ck5 sh0 0 1 1 fr5_0 rfl q1_178 dX5_home_29 ?_
  refine lv_iconst (v := 0) hx hb dX5_home_32 (by decide) ?_
  refine w_putiN hX hK hE hH ck3 (sf5_0 sh0) 7 fw3_7 qn1_77 dX5_home_33 (fun I5 H locs hI hH => ?_)
  have hq := hq I5 hI
  refine lv_iload_n hx hb dX5_home_36 rfl (lv_at hl 0 rfl) ?_
  exact w_eI hX hr hlk hH hq dX5_home_37
abbrev rm_X5_isKeyMask : Room := { frames := 1, cells := 0, slots := 0, locals := 20 }
theorem hd_X5_isKeyMask : yX5_isKeyMask.cls = RX5 ∧ yX5_isKeyMask.cls ≠ "java/lang/invoke/MethodHandle" ∧ yX5_isKeyMask.cls ≠ "java/lang/invoke/VarHandle" ∧ (parseMethodDescriptor yX5_isKeyMask.desc).map (fun d => d.parameters.length) = some 1 := by decide +kernel
set_option maxRecDepth 100000 in
set_option maxHeartbeats 4000000 in
theorem s_X5_isKeyMask_23 {x0 : Int32} {I : wI} {Q : Int32 → Prop} (C0 : wCx p m c s args meth cX5_isKeyMask 1 RX5 (some .boolean) D cs ad b) : ∀ (t0 : Int32) (H : Heap) (locs : List Loc) (ls : Array Slot), v_X5_isKeyMask_23 x0 I Q t0 → wH D cs b G I s H locs → lv_has ls 1 [] → W p l e rm_X5_isKeyMask s m args below meth c H locs 0 0 (MQ below (va_Qi (fun r I' => I' = I ∧ Q r) (wPo D cs b G) (fun q => b ≤ q)) args s 0 0 (fun q => b ≤ q)) (F0 m 23 ls [.int t0]) := by
  obtain ⟨hX, hr, hlk, hK, hE⟩ := id C0
  have hx := hX.1
  have hb := hX.2.1
  have hown := hX.2.2.2.1
  have hts := hX.2.2.2.2
  intro t0 H locs ls hq hH hl
  unfold v_X5_isKeyMask_23 at hq
  obtain ⟨hz, hq⟩ := hq
  exact w_eZ hz hX hr hlk hH ⟨rfl, hq⟩ dX5_isKeyMask_23
set_option maxRecDepth 100000 in
set_option maxHeartbeats 4000000 in
theorem s_X5_isKeyMask_22 {x0 : Int32} {I : wI} {Q : Int32 → Prop} (C0 : wCx p m c s args meth cX5_isKeyMask 1 RX5 (some .boolean) D cs ad b) : ∀  (H : Heap) (locs : List Loc) (ls : Array Slot), v_X5_isKeyMask_22 x0 I Q  → wH D cs b G I s H locs → lv_has ls 1 [] → W p l e rm_X5_isKeyMask s m args below meth c H locs 0 0 (MQ below (va_Qi (fun r I' => I' = I ∧ Q r) (wPo D cs b G) (fun q => b ≤ q)) args s 0 0 (fun q => b ≤ q)) (F0 m 22 ls []) := by
  obtain ⟨hX, hr, hlk, hK, hE⟩ := id C0
  have hx := hX.1
  have hb := hX.2.1
  have hown := hX.2.2.2.1
  have hts := hX.2.2.2.2
  intro  H locs ls hq hH hl
  unfold v_X5_isKeyMask_22 at hq
  refine lv_iconst (v := 0) hx hb dX5_isKeyMask_22 (by decide) ?_
  exact s_X5_isKeyMask_23  C0  (0 : Int32) _ _ _ hq hH (lv_sub hl [] rfl)
set_option maxRecDepth 100000 in
set_option maxHeartbeats 4000000 in
theorem c_X5_isKeyMask {l : Launch} {D : va_G} {cs : wC4} {ad : Nat → Nat} {b : Nat} {G : wG} (x0 : Int32) (I : wI) (hp : pre_X5_isKeyMask x0 I) : Met l yX5_isKeyMask (ws_ yX5_isKeyMask cX5_isKeyMask 1 (some .boolean)) rm_X5_isKeyMask (va_Pc [.int x0] (wPr D cs ad b G I)) (va_Qi (fun r I' => I' = I ∧ post_X5_isKeyMask x0 I r) (wPo D cs b G) (fun q => b ≤ q)) 0 0 (fun q => b ≤ q) := by
  have hq := vc_X5_isKeyMask x0 I hp
  refine w_met (by decide) (Nat.le_of_ble_eq_true rfl) ?_
  intro p e s m below meth c hX hr hlk hK hE hH ls hl
  have C0 : wCx p m c s _ meth cX5_isKeyMask 1 RX5 (some .boolean) D cs ad b := ⟨hX, hr, hlk, hK, hE⟩
  have hX : CallFix p m c cX5_isKeyMask 1 s _ lw_all RX5 := hX
  have hx := hX.1
  have hb := hX.2.1
  have hown := hX.2.2.2.1
  have hts := hX.2.2.2.2
  have hl : lv_has ls 1 [(0, .int x0)] := hl
  unfold v_X5_isKeyMask at hq
  refine lv_iload_n hx hb dX5_isKeyMask_0 rfl (lv_at hl 0 rfl) ?_
  refine lv_if_lt (tgt := 22) hx hb dX5_isKeyMask_1 (by decide) (fun hc => ?_) (fun hc => ?_)
  · have hq := hq.1 hc
    exact s_X5_isKeyMask_22  C0   _ _ _ hq hH (lv_sub hl [] rfl)
  · have hq := hq.2 hc
    refine lv_iload_n hx hb dX5_isKeyMask_4 rfl (lv_at hl 0 rfl) ?_
    refine lv_bipush (v := 64) hx hb dX5_isKeyMask_5 (by decide) ?_
    refine lv_icmp_ge (tgt := 22) hx hb dX5_isKeyMask_7 (by decide) (fun hc => ?_) (fun hc => ?_)
    · have hq := hq.1 hc
      exact s_X5_isKeyMask_22  C0   _ _ _ hq hH (lv_sub hl [] rfl)
    · have hq := hq.2 hc
      refine lv_iload_n hx hb dX5_isKeyMask_10 rfl (lv_at hl 0 rfl) ?_
      obtain ⟨hp, hq⟩ := hq
      refine w_cIp hH (w_rS (As := [.int x0]) (rest := []) hX hK hE hH (c_J_bitCount  _ _ hp) q1_238 q1_239 q1_13 q2_0 hd_J_bitCount.2 ⟨Nat.le_of_ble_eq_true rfl, Nat.le_of_ble_eq_true rfl⟩ ⟨rfl, rfl⟩ rfl hl.1 rfl (Nat.le_of_ble_eq_true rfl) dX5_isKeyMask_11 ⟨Nat.zero_le _, Nat.zero_le _⟩) (fun r1  H locs hpo hH => ?_)
      have hq := hq r1  hpo
      refine lv_iconst (v := 2) hx hb dX5_isKeyMask_14 (by decide) ?_
      refine lv_icmp_lt (tgt := 22) hx hb dX5_isKeyMask_15 (by decide) (fun hc => ?_) (fun hc => ?_)
      · have hq := hq.1 hc
        exact s_X5_isKeyMask_22  C0   _ _ _ hq hH (lv_sub hl [] rfl)
      · have hq := hq.2 hc
        refine lv_iconst (v := 1) hx hb dX5_isKeyMask_18 (by decide) ?_
        refine lv_goto (tgt := 23) hx hb dX5_isKeyMask_19 (by decide) ?_
        exact s_X5_isKeyMask_23  C0  (1 : Int32) _ _ _ hq hH (lv_sub hl [] rfl)
abbrev rm_X1_shape : Room := { frames := 0, cells := 0, slots := 0, locals := 0 }
theorem hd_X1_shape : yX1_shape.cls = RX1 ∧ yX1_shape.cls ≠ "java/lang/invoke/MethodHandle" ∧ yX1_shape.cls ≠ "java/lang/invoke/VarHandle" ∧ (parseMethodDescriptor yX1_shape.desc).map (fun d => d.parameters.length) = some 3 := by decide +kernel
set_option maxRecDepth 100000 in
set_option maxHeartbeats 4000000 in
theorem s_X1_shape_23 {k : Nat} {x1 : Int32} {x2 : Int32} {x3 : Int32} {Q : wI → Prop} (hs : wSh k = (0, 1)) (C0 : wCx p m c s args meth cX1_shape 4 RX1 none D cs ad b) : ∀  (I : wI) (H : Heap) (locs : List Loc) (ls : Array Slot), v_X1_shape_23 k x1 x2 x3 Q  I → wH D cs b G I s H locs → lv_has ls 4 [] → W p l e rm_X1_shape s m args below meth c H locs 0 0 (MQ below (va_Qv (Q) (wPo D cs b G) (fun q => b ≤ q)) args s 0 0 (fun q => b ≤ q)) (F0 m 23 ls []) := by
  obtain ⟨hX, hr, hlk, hK, hE⟩ := id C0
  have hx := hX.1
  have hb := hX.2.1
  have hown := hX.2.2.2.1
  have hts := hX.2.2.2.2
  intro  I H locs ls hq hH hl
  unfold v_X1_shape_23 at hq
  exact w_eV hX hr hlk hH hq dX1_shape_23
set_option maxRecDepth 100000 in
set_option maxHeartbeats 4000000 in
theorem c_X1_shape {l : Launch} {D : va_G} {cs : wC4} {ad : Nat → Nat} {b : Nat} {G : wG} {k : Nat} (hs : wSh k = (0, 1)) (x1 : Int32) (x2 : Int32) (x3 : Int32) (I : wI) (hp : pre_X1_shape k x1 x2 x3 I) : Met l yX1_shape (ws_ yX1_shape cX1_shape 4 none) rm_X1_shape (va_Pc [.ref (b + k), .int x1, .int x2, .int x3] (wPr D cs ad b G I)) (va_Qv (fun I' => post_X1_shape k x1 x2 x3 I I') (wPo D cs b G) (fun q => b ≤ q)) 0 0 (fun q => b ≤ q) := by
  have hq := vc_X1_shape k x1 x2 x3 I hp
  refine w_met (by decide) (Nat.le_of_ble_eq_true rfl) ?_
  intro p e s m below meth c hX hr hlk hK hE hH ls hl
  have C0 : wCx p m c s _ meth cX1_shape 4 RX1 none D cs ad b := ⟨hX, hr, hlk, hK, hE⟩
  have hX : CallFix p m c cX1_shape 4 s _ lw_all RX1 := hX
  have hx := hX.1
  have hb := hX.2.1
  have hown := hX.2.2.2.1
  have hts := hX.2.2.2.2
  have hl : lv_has ls 4 [(0, .ref (b + k)), (1, .int x1), (2, .int x2), (3, .int x3)] := hl
  unfold v_X1_shape at hq
  refine lv_iload_n hx hb dX1_shape_0 rfl (lv_at hl 1 rfl) ?_
  refine lv_if_lt (tgt := 23) hx hb dX1_shape_1 (by decide) (fun hc => ?_) (fun hc => ?_)
  · have hq := hq.1 hc
    exact s_X1_shape_23 hs C0   _ _ _ _ hq hH (lv_sub hl [] rfl)
  · have hq := hq.2 hc
    refine lv_iload_n hx hb dX1_shape_4 rfl (lv_at hl 1 rfl) ?_
    refine lv_iconst (v := 5) hx hb dX1_shape_5 (by decide) ?_
    refine lv_icmp_ge (tgt := 23) hx hb dX1_shape_6 (by decide) (fun hc => ?_) (fun hc => ?_)
    · have hq := hq.1 hc
      exact s_X1_shape_23 hs C0   _ _ _ _ hq hH (lv_sub hl [] rfl)
    · have hq := hq.2 hc
      refine lv_aload_n hx hb dX1_shape_9 rfl (lv_at hl 0 rfl) ?_
      refine w_getr hX hK hH ck1 hs 0 1 (k + 1) fr1_0 rfl q1_52 dX1_shape_10 ?_
      refine lv_iload_n hx hb dX1_shape_13 rfl (lv_at hl 1 rfl) ?_
      refine lv_iload_n hx hb dX1_shape_14 rfl (lv_at hl 2 rfl) ?_
      obtain ⟨hc, hq⟩ := hq
      refine w_iast hX hK hH (sf1_0 hs) hc dX1_shape_15 (fun I1 H locs hI hH => ?_)
      have hq := hq I1 hI
      refine lv_aload_n hx hb dX1_shape_16 rfl (lv_at hl 0 rfl) ?_
      refine w_getr hX hK hH ck1 hs 1 2 (k + 2) fr1_1 rfl q1_53 dX1_shape_17 ?_
      refine lv_iload_n hx hb dX1_shape_20 rfl (lv_at hl 1 rfl) ?_
      refine lv_iload_n hx hb dX1_shape_21 rfl (lv_at hl 3 rfl) ?_
      obtain ⟨hc, hq⟩ := hq
      refine w_iast hX hK hH (sf1_1 hs) hc dX1_shape_22 (fun I2 H locs hI hH => ?_)
      have hq := hq I2 hI
      exact s_X1_shape_23 hs C0   _ _ _ _ hq hH (lv_sub hl [] rfl)
end
