section
variable {p : Program} {l : Launch} {e : Env} {s : State} {m : MethodId} {args : Array Value} {below : List Frame} {meth : Method} {c : Code} {D : va_G} {cs : wC4} {ad : Nat → Nat} {b : Nat} {G : wG}
abbrev rm_X5_mixPairsx : Room := { frames := 10, cells := 1, slots := 6, locals := 163 }

set_option maxRecDepth 100000 in
set_option maxHeartbeats 4000000 in
theorem s_X5_mixPairsx_23 {x1 : Int64} {X : String → wI → Prop} {K5 : Int64 → Int32 → wI → Prop} {K14 : Int64 → Int32 → Int32 → wI → Prop} (hst : l.stackTraces = false) (hEx : ∀ x ∈ c.exceptionTable.toList, False) (C0 : wCx p m c s args meth cX5_mixPairs 8 RX5 (some .long) D cs ad b) (hK5 : ∀ (v3 : Int64) (v5 : Int32) (I : wI) (H : Heap) (locs : List Loc) (ls : Array Slot), K5 v3 v5 I → wH D cs b G I s H locs → lv_has ls 8 [(0, .ref (b + 0)), (3, .long v3), (5, .int v5)] → W p l e rm_X5_mixPairsx s m args below meth c H locs 0 0 (vx_MQ below (va_Ql (fun (_ : Int64) (_ : wI) => False) (wPo D cs b G) (fun q => b ≤ q)) (wXC D cs b G X) args s 1 6 (fun q => b ≤ q)) (F0 m 5 ls [])) (hK14 : ∀ (v3 : Int64) (v5 : Int32) (v6 : Int32) (I : wI) (H : Heap) (locs : List Loc) (ls : Array Slot), K14 v3 v5 v6 I → wH D cs b G I s H locs → lv_has ls 8 [(0, .ref (b + 0)), (3, .long v3), (5, .int v5), (6, .int v6)] → W p l e rm_X5_mixPairsx s m args below meth c H locs 0 0 (vx_MQ below (va_Ql (fun (_ : Int64) (_ : wI) => False) (wPo D cs b G) (fun q => b ≤ q)) (wXC D cs b G X) args s 1 6 (fun q => b ≤ q)) (F0 m 14 ls [])) : ∀ (f : Nat) (v3 : Int64) (v5 : Int32) (v6 : Int32) (v7 : Int32) (I : wI) (H : Heap) (locs : List Loc) (ls : Array Slot), v_X5_mixPairsx_23 x1 X K5 K14 f v3 v5 v6 v7 I → wH D cs b G I s H locs → lv_has ls 8 [(0, .ref (b + 0)), (3, .long v3), (5, .int v5), (6, .int v6), (7, .int v7)] → W p l e rm_X5_mixPairsx s m args below meth c H locs 0 0 (vx_MQ below (va_Ql (fun (_ : Int64) (_ : wI) => False) (wPo D cs b G) (fun q => b ≤ q)) (wXC D cs b G X) args s 1 6 (fun q => b ≤ q)) (F0 m 23 ls []) := by
  obtain ⟨hX, hr, hlk, hK, hE⟩ := id C0
  have hx := hX.1
  have hb := hX.2.1
  have hown := hX.2.2.2.1
  have hts := hX.2.2.2.2
  intro f
  induction f with
  | zero =>
    intro v3 v5 v6 v7 I H locs ls hq
    exact hq.elim
  | succ f hK23 =>
    intro v3 v5 v6 v7 I H locs ls hq hH hl
    have hq : g_X5_mixPairsx_23 x1 X K5 K14 (v_X5_mixPairsx_23 x1 X K5 K14 f) v3 v5 v6 v7 I := hq
    unfold g_X5_mixPairsx_23 at hq
    refine lv_iload hx hb dX5_mixPairs_23 (lv_at hl 4 rfl) ?_
    refine lv_iconst (v := 4) hx hb dX5_mixPairs_25 (by decide) ?_
    refine lv_icmp_gt (tgt := 51) hx hb dX5_mixPairs_26 (by decide) (fun hc => ?_) (fun hc => ?_)
    · have hq := hq.1 hc
      refine lv_iinc (v := (v6 + (1 : Int32))) (lv' := [(6, .int (v6 + (1 : Int32))), (0, .ref (b + 0)), (3, .long v3), (5, .int v5), (7, .int v7)]) hx hb dX5_mixPairs_51 hl (k := 3) rfl rfl (by decide) rfl (fun ls hl => ?_)
      refine lv_goto (tgt := 14) hx hb dX5_mixPairs_54 (by decide) ?_
      exact hK14 v3 v5 (v6 + (1 : Int32)) _ _ _ _ hq hH (lv_sub hl [1, 2, 3, 0] rfl)
    · have hq := hq.2 hc
      refine lv_lload_n hx hb dX5_mixPairs_29 rfl (lv_at hl 1 rfl) ?_
      refine lv_aload_n hx hb dX5_mixPairs_30 rfl (lv_at hl 0 rfl) ?_
      refine lv_iload hx hb dX5_mixPairs_31 (lv_at hl 2 rfl) ?_
      refine lv_iload hx hb dX5_mixPairs_33 (lv_at hl 3 rfl) ?_
      refine lv_iload hx hb dX5_mixPairs_35 (lv_at hl 4 rfl) ?_
      by_cases hok : ok_X5_pair v5 v6 v7 I
      · have hq := hq.1 hok
        obtain ⟨hp, hq⟩ := hq
        refine w_cI hH (w_rV (As := [.int v5, .int v6, .int v7]) (rest := [.long v3]) hX hK hE hH (c_X5_pair  _ _ _ _ hp) ck5 sh0 q3_85 q3_86 q3_87 q1_1 q3_88 hd_X5_pair ⟨Nat.le_of_ble_eq_true rfl, Nat.le_of_ble_eq_true rfl⟩ ⟨rfl, rfl⟩ rfl hl.1 rfl (Nat.le_of_ble_eq_true rfl) dX5_mixPairs_37 ⟨Nat.zero_le _, Nat.zero_le _⟩) (fun r3 I4 H locs hpo hH => ?_)
        have hq := hq r3 I4 hpo
        refine lv_i2l hx hb dX5_mixPairs_40 rfl ?_
        obtain ⟨hp, hq⟩ := hq
        refine w_cLp hH (w_rS (As := [.long v3, .long (r3).toInt64]) (rest := []) hX hK hE hH (c_X5_mix  _ _ _ hp) q2_222 q2_223 q1_1 q2_224 hd_X5_mix.2 ⟨Nat.le_of_ble_eq_true rfl, Nat.le_of_ble_eq_true rfl⟩ ⟨rfl, rfl⟩ rfl hl.1 rfl (Nat.le_of_ble_eq_true rfl) dX5_mixPairs_41 ⟨Nat.zero_le _, Nat.zero_le _⟩) (fun r5  H locs hpo hH => ?_)
        have hq := hq r5  hpo
        refine lv_lstore_n (lv' := [(3, .long r5), (0, .ref (b + 0)), (5, .int v5), (6, .int v6), (7, .int v7)]) hx hb dX5_mixPairs_44 rfl hl (by decide) rfl (fun ls hl => ?_)
        refine lv_iinc (v := (v7 + (1 : Int32))) (lv' := [(7, .int (v7 + (1 : Int32))), (3, .long r5), (0, .ref (b + 0)), (5, .int v5), (6, .int v6)]) hx hb dX5_mixPairs_45 hl (k := 4) rfl rfl (by decide) rfl (fun ls hl => ?_)
        refine lv_goto (tgt := 23) hx hb dX5_mixPairs_48 (by decide) ?_
        exact hK23 r5 v5 v6 (v7 + (1 : Int32)) _ _ _ _ hq hH (lv_sub hl [2, 1, 3, 4, 0] rfl)
      · have hq := hq.2 hok
        obtain ⟨hp, hq⟩ := hq
        exact w_xI hEx hlk hH (w_xrV (As := [.int v5, .int v6, .int v7]) (rest := [.long v3]) hX hK hE hH (c_X5_pairx hst  _ _ _ _ hp) ck5 sh0 q3_85 q3_86 q3_87 q1_1 q3_88 hd_X5_pair ⟨Nat.le_of_ble_eq_true rfl, Nat.le_of_ble_eq_true rfl⟩ ⟨rfl, rfl⟩ rfl hl.1 rfl (Nat.le_of_ble_eq_true rfl) dX5_mixPairs_37 ⟨Nat.le_of_ble_eq_true rfl, Nat.le_of_ble_eq_true rfl⟩) (fun E u h => hq E u h)
set_option maxRecDepth 100000 in
set_option maxHeartbeats 4000000 in
theorem s_X5_mixPairsx_14 {x1 : Int64} {X : String → wI → Prop} {K5 : Int64 → Int32 → wI → Prop} (hst : l.stackTraces = false) (hEx : ∀ x ∈ c.exceptionTable.toList, False) (C0 : wCx p m c s args meth cX5_mixPairs 8 RX5 (some .long) D cs ad b) (hK5 : ∀ (v3 : Int64) (v5 : Int32) (I : wI) (H : Heap) (locs : List Loc) (ls : Array Slot), K5 v3 v5 I → wH D cs b G I s H locs → lv_has ls 8 [(0, .ref (b + 0)), (3, .long v3), (5, .int v5)] → W p l e rm_X5_mixPairsx s m args below meth c H locs 0 0 (vx_MQ below (va_Ql (fun (_ : Int64) (_ : wI) => False) (wPo D cs b G) (fun q => b ≤ q)) (wXC D cs b G X) args s 1 6 (fun q => b ≤ q)) (F0 m 5 ls [])) : ∀ (f : Nat) (v3 : Int64) (v5 : Int32) (v6 : Int32) (I : wI) (H : Heap) (locs : List Loc) (ls : Array Slot), v_X5_mixPairsx_14 x1 X K5 f v3 v5 v6 I → wH D cs b G I s H locs → lv_has ls 8 [(0, .ref (b + 0)), (3, .long v3), (5, .int v5), (6, .int v6)] → W p l e rm_X5_mixPairsx s m args below meth c H locs 0 0 (vx_MQ below (va_Ql (fun (_ : Int64) (_ : wI) => False) (wPo D cs b G) (fun q => b ≤ q)) (wXC D cs b G X) args s 1 6 (fun q => b ≤ q)) (F0 m 14 ls []) := by
  obtain ⟨hX, hr, hlk, hK, hE⟩ := id C0
  have hx := hX.1
  have hb := hX.2.1
  have hown := hX.2.2.2.1
  have hts := hX.2.2.2.2
  intro f
  induction f with
  | zero =>
    intro v3 v5 v6 I H locs ls hq
    exact hq.elim
  | succ f hK14 =>
    intro v3 v5 v6 I H locs ls hq hH hl
    have hq : g_X5_mixPairsx_14 x1 X K5 (v_X5_mixPairsx_14 x1 X K5 f) v3 v5 v6 I := hq
    unfold g_X5_mixPairsx_14 at hq
    refine lv_iload hx hb dX5_mixPairs_14 (lv_at hl 3 rfl) ?_
    refine lv_iconst (v := 5) hx hb dX5_mixPairs_16 (by decide) ?_
    refine lv_icmp_ge (tgt := 57) hx hb dX5_mixPairs_17 (by decide) (fun hc => ?_) (fun hc => ?_)
    · have hq := hq.1 hc
      refine lv_iinc (v := (v5 + (1 : Int32))) (lv' := [(5, .int (v5 + (1 : Int32))), (0, .ref (b + 0)), (3, .long v3), (6, .int v6)]) hx hb dX5_mixPairs_57 hl (k := 2) rfl rfl (by decide) rfl (fun ls hl => ?_)
      refine lv_goto (tgt := 5) hx hb dX5_mixPairs_60 (by decide) ?_
      exact hK5 v3 (v5 + (1 : Int32)) _ _ _ _ hq hH (lv_sub hl [1, 2, 0] rfl)
    · have hq := hq.2 hc
      refine lv_iconst (v := 0) hx hb dX5_mixPairs_20 (by decide) ?_
      refine lv_istore (lv' := [(7, .int (0 : Int32)), (0, .ref (b + 0)), (3, .long v3), (5, .int v5), (6, .int v6)]) hx hb dX5_mixPairs_21 hl (by decide) rfl (fun ls hl => ?_)
      obtain ⟨f, hq⟩ := hq
      exact s_X5_mixPairsx_23 hst hEx C0 hK5 hK14 f v3 v5 v6 (0 : Int32) _ _ _ _ hq hH (lv_sub hl [1, 2, 3, 4, 0] rfl)
set_option maxRecDepth 100000 in
set_option maxHeartbeats 4000000 in
theorem s_X5_mixPairsx_5 {x1 : Int64} {X : String → wI → Prop} (hst : l.stackTraces = false) (hEx : ∀ x ∈ c.exceptionTable.toList, False) (C0 : wCx p m c s args meth cX5_mixPairs 8 RX5 (some .long) D cs ad b) : ∀ (f : Nat) (v3 : Int64) (v5 : Int32) (I : wI) (H : Heap) (locs : List Loc) (ls : Array Slot), v_X5_mixPairsx_5 x1 X f v3 v5 I → wH D cs b G I s H locs → lv_has ls 8 [(0, .ref (b + 0)), (3, .long v3), (5, .int v5)] → W p l e rm_X5_mixPairsx s m args below meth c H locs 0 0 (vx_MQ below (va_Ql (fun (_ : Int64) (_ : wI) => False) (wPo D cs b G) (fun q => b ≤ q)) (wXC D cs b G X) args s 1 6 (fun q => b ≤ q)) (F0 m 5 ls []) := by
  obtain ⟨hX, hr, hlk, hK, hE⟩ := id C0
  have hx := hX.1
  have hb := hX.2.1
  have hown := hX.2.2.2.1
  have hts := hX.2.2.2.2
  intro f
  induction f with
  | zero =>
    intro v3 v5 I H locs ls hq
    exact hq.elim
  | succ f hK5 =>
    intro v3 v5 I H locs ls hq hH hl
    have hq : g_X5_mixPairsx_5 x1 X (v_X5_mixPairsx_5 x1 X f) v3 v5 I := hq
    unfold g_X5_mixPairsx_5 at hq
    refine lv_iload hx hb dX5_mixPairs_5 (lv_at hl 2 rfl) ?_
    refine lv_iconst (v := 5) hx hb dX5_mixPairs_7 (by decide) ?_
    refine lv_icmp_ge (tgt := 63) hx hb dX5_mixPairs_8 (by decide) (fun hc => ?_) (fun hc => ?_)
    · have hq := hq.1 hc
      refine lv_lload_n hx hb dX5_mixPairs_63 rfl (lv_at hl 1 rfl) ?_
      exact hq.elim
    · have hq := hq.2 hc
      refine lv_iconst (v := 0) hx hb dX5_mixPairs_11 (by decide) ?_
      refine lv_istore (lv' := [(6, .int (0 : Int32)), (0, .ref (b + 0)), (3, .long v3), (5, .int v5)]) hx hb dX5_mixPairs_12 hl (by decide) rfl (fun ls hl => ?_)
      obtain ⟨f, hq⟩ := hq
      exact s_X5_mixPairsx_14 hst hEx C0 hK5 f v3 v5 (0 : Int32) _ _ _ _ hq hH (lv_sub hl [1, 2, 3, 0] rfl)
set_option maxRecDepth 100000 in
set_option maxHeartbeats 4000000 in
theorem c_X5_mixPairsx {l : Launch} {D : va_G} {cs : wC4} {ad : Nat → Nat} {b : Nat} {G : wG} (hst : l.stackTraces = false) (x1 : Int64) (I : wI) (hp : pre_X5_mixPairsx x1 I) : vx_Met l yX5_mixPairs (ws_ yX5_mixPairs cX5_mixPairs 8 (some .long)) rm_X5_mixPairsx (va_Pc [.ref (b + 0), .long x1] (wPr D cs ad b G I)) (va_Ql (fun (_ : Int64) (_ : wI) => False) (wPo D cs b G) (fun q => b ≤ q)) (wXC D cs b G (exc_X5_mixPairs x1 I)) 1 6 (fun q => b ≤ q) := by
  have hq := vc_X5_mixPairsx x1 I hp
  refine w_metx (by decide) (Nat.le_of_ble_eq_true rfl) ?_
  intro p e s m below meth c hX hr hlk hEx hK hE hH ls hl
  have C0 : wCx p m c s _ meth cX5_mixPairs 8 RX5 (some .long) D cs ad b := ⟨hX, hr, hlk, hK, hE⟩
  have hX : CallFix p m c cX5_mixPairs 8 s _ lw_all RX5 := hX
  have hx := hX.1
  have hb := hX.2.1
  have hown := hX.2.2.2.1
  have hts := hX.2.2.2.2
  have hl : lv_has ls 8 [(0, .ref (b + 0)), (1, .long x1)] := hl
  unfold v_X5_mixPairsx at hq
  refine lv_lload_n hx hb dX5_mixPairs_0 rfl (lv_at hl 1 rfl) ?_
  refine lv_lstore_n (lv' := [(3, .long x1), (0, .ref (b + 0)), (1, .long x1)]) hx hb dX5_mixPairs_1 rfl hl (by decide) rfl (fun ls hl => ?_)
  refine lv_iconst (v := 0) hx hb dX5_mixPairs_2 (by decide) ?_
  refine lv_istore (lv' := [(5, .int (0 : Int32)), (3, .long x1), (0, .ref (b + 0)), (1, .long x1)]) hx hb dX5_mixPairs_3 hl (by decide) rfl (fun ls hl => ?_)
  obtain ⟨f, hq⟩ := hq
  exact s_X5_mixPairsx_5 hst hEx C0  f x1 (0 : Int32) _ _ _ _ hq hH (lv_sub hl [2, 1, 0] rfl)
abbrev rm_X5_doubleBits : Room := { frames := 0, cells := 0, slots := 0, locals := 0 }
theorem hd_X5_doubleBits : yX5_doubleBits.cls = RX5 ∧ yX5_doubleBits.cls ≠ "java/lang/invoke/MethodHandle" ∧ yX5_doubleBits.cls ≠ "java/lang/invoke/VarHandle" ∧ (parseMethodDescriptor yX5_doubleBits.desc).map (fun d => d.parameters.length) = some 1 := by decide +kernel
set_option maxRecDepth 100000 in
set_option maxHeartbeats 4000000 in
theorem s_X5_doubleBits_50 {x0 : UInt64} {I : wI} {Q : Int64 → Prop} (C0 : wCx p m c s args meth cX5_doubleBits 7 RX5 (some .long) D cs ad b) : ∀ (v2 : UInt64) (v4 : Int64) (H : Heap) (locs : List Loc) (ls : Array Slot), v_X5_doubleBits_50 x0 I Q v2 v4 → wH D cs b G I s H locs → lv_has ls 7 [(2, .double v2), (4, .long v4)] → W p l e rm_X5_doubleBits s m args below meth c H locs 0 0 (MQ below (va_Ql (fun r I' => I' = I ∧ Q r) (wPo D cs b G) (fun q => b ≤ q)) args s 0 0 (fun q => b ≤ q)) (F0 m 50 ls []) := by
  obtain ⟨hX, hr, hlk, hK, hE⟩ := id C0
  have hx := hX.1
  have hb := hX.2.1
  have hown := hX.2.2.2.1
  have hts := hX.2.2.2.2
  intro v2 v4 H locs ls hq hH hl
  unfold v_X5_doubleBits_50 at hq
  refine lv_lload hx hb dX5_doubleBits_50 (lv_at hl 1 rfl) ?_
  refine lv_bipush (v := 52) hx hb dX5_doubleBits_52 (by decide) ?_
  refine lv_lshl hx hb dX5_doubleBits_54 rfl ?_
  refine lv_dload_n hx hb dX5_doubleBits_55 rfl (lv_at hl 0 rfl) ?_
  refine lv_dconst1 hx hb dX5_doubleBits_56 ?_
  obtain ⟨hc, hq⟩ := hq
  refine lv_dsub hx hb dX5_doubleBits_57 hc ?_
  refine lv_ldc2d hx hb hown (hts _ q3_137) dX5_doubleBits_58 ?_
  obtain ⟨hc, hq⟩ := hq
  refine lv_dmul hx hb dX5_doubleBits_61 hc ?_
  refine lv_d2l hx hb dX5_doubleBits_62 ?_
  refine lv_lor hx hb dX5_doubleBits_63 ?_
  exact w_eL hX hr hlk hH ⟨rfl, hq⟩ dX5_doubleBits_64
set_option maxRecDepth 100000 in
set_option maxHeartbeats 4000000 in
theorem s_X5_doubleBits_18 {x0 : UInt64} {I : wI} {Q : Int64 → Prop} (C0 : wCx p m c s args meth cX5_doubleBits 7 RX5 (some .long) D cs ad b) : ∀ (f : Nat) (v2 : UInt64) (v4 : Int64) (v6 : Int32) (H : Heap) (locs : List Loc) (ls : Array Slot), v_X5_doubleBits_18 x0 I Q f v2 v4 v6 → wH D cs b G I s H locs → lv_has ls 7 [(2, .double v2), (4, .long v4), (6, .int v6)] → W p l e rm_X5_doubleBits s m args below meth c H locs 0 0 (MQ below (va_Ql (fun r I' => I' = I ∧ Q r) (wPo D cs b G) (fun q => b ≤ q)) args s 0 0 (fun q => b ≤ q)) (F0 m 18 ls []) := by
  obtain ⟨hX, hr, hlk, hK, hE⟩ := id C0
  have hx := hX.1
  have hb := hX.2.1
  have hown := hX.2.2.2.1
  have hts := hX.2.2.2.2
  intro f
  induction f with
  | zero =>
    intro v2 v4 v6 H locs ls hq
    exact hq.elim
  | succ f hK18 =>
    intro v2 v4 v6 H locs ls hq hH hl
    have hq : g_X5_doubleBits_18 x0 I Q (v_X5_doubleBits_18 x0 I Q f) v2 v4 v6 := hq
    unfold g_X5_doubleBits_18 at hq
    refine lv_iload hx hb dX5_doubleBits_18 (lv_at hl 2 rfl) ?_
    refine lv_sipush (v := 2000) hx hb dX5_doubleBits_20 (by decide) ?_
    refine lv_icmp_ge (tgt := 50) hx hb dX5_doubleBits_23 (by decide) (fun hc => ?_) (fun hc => ?_)
    · have hq := hq.1 hc
      exact s_X5_doubleBits_50  C0  v2 v4 _ _ _ hq hH (lv_sub hl [0, 1] rfl)
    · have hq := hq.2 hc
      refine lv_dload_n hx hb dX5_doubleBits_26 rfl (lv_at hl 0 rfl) ?_
      refine lv_dconst1 hx hb dX5_doubleBits_27 ?_
      refine lv_dcmp hx hb dX5_doubleBits_28 ?_
      refine lv_if_ge (tgt := 50) hx hb dX5_doubleBits_29 (by decide) (fun hc => ?_) (fun hc => ?_)
      · have hq := hq.1 hc
        exact s_X5_doubleBits_50  C0  v2 v4 _ _ _ hq hH (lv_sub hl [0, 1] rfl)
      · have hq := hq.2 hc
        refine lv_dload_n hx hb dX5_doubleBits_32 rfl (lv_at hl 0 rfl) ?_
        refine lv_ldc2d hx hb hown (hts _ q3_136) dX5_doubleBits_33 ?_
        obtain ⟨hc, hq⟩ := hq
        refine lv_dmul hx hb dX5_doubleBits_36 hc ?_
        refine lv_dstore_n (lv' := [(2, .double (FP.dmul v2 (4611686018427387904 : UInt64))), (4, .long v4), (6, .int v6)]) hx hb dX5_doubleBits_37 rfl hl (by decide) rfl (fun ls hl => ?_)
        refine lv_lload hx hb dX5_doubleBits_38 (lv_at hl 1 rfl) ?_
        refine lv_lconst (v := 1) hx hb dX5_doubleBits_40 (by decide) ?_
        refine lv_lsub hx hb dX5_doubleBits_41 ?_
        refine lv_lstore (lv' := [(4, .long (v4 - (1 : Int64))), (2, .double (FP.dmul v2 (4611686018427387904 : UInt64))), (6, .int v6)]) hx hb dX5_doubleBits_42 hl (by decide) rfl (fun ls hl => ?_)
        refine lv_iinc (v := (v6 + (1 : Int32))) (lv' := [(6, .int (v6 + (1 : Int32))), (4, .long (v4 - (1 : Int64))), (2, .double (FP.dmul v2 (4611686018427387904 : UInt64)))]) hx hb dX5_doubleBits_44 hl (k := 2) rfl rfl (by decide) rfl (fun ls hl => ?_)
        refine lv_goto (tgt := 18) hx hb dX5_doubleBits_47 (by decide) ?_
        exact hK18 (FP.dmul v2 (4611686018427387904 : UInt64)) (v4 - (1 : Int64)) (v6 + (1 : Int32)) _ _ _ hq hH (lv_sub hl [2, 1, 0] rfl)
set_option maxRecDepth 100000 in
set_option maxHeartbeats 4000000 in
theorem c_X5_doubleBits {l : Launch} {D : va_G} {cs : wC4} {ad : Nat → Nat} {b : Nat} {G : wG} (x0 : UInt64) (I : wI) (hp : pre_X5_doubleBits x0 I) : Met l yX5_doubleBits (ws_ yX5_doubleBits cX5_doubleBits 7 (some .long)) rm_X5_doubleBits (va_Pc [.double x0] (wPr D cs ad b G I)) (va_Ql (fun r I' => I' = I ∧ post_X5_doubleBits x0 I r) (wPo D cs b G) (fun q => b ≤ q)) 0 0 (fun q => b ≤ q) := by
  have hq := vc_X5_doubleBits x0 I hp
  refine w_met (by decide) (Nat.le_of_ble_eq_true rfl) ?_
  intro p e s m below meth c hX hr hlk hK hE hH ls hl
  have C0 : wCx p m c s _ meth cX5_doubleBits 7 RX5 (some .long) D cs ad b := ⟨hX, hr, hlk, hK, hE⟩
  have hX : CallFix p m c cX5_doubleBits 7 s _ lw_all RX5 := hX
  have hx := hX.1
  have hb := hX.2.1
  have hown := hX.2.2.2.1
  have hts := hX.2.2.2.2
  have hl : lv_has ls 7 [(0, .double x0)] := hl
  unfold v_X5_doubleBits at hq
  refine lv_dload_n hx hb dX5_doubleBits_0 rfl (lv_at hl 0 rfl) ?_
  refine lv_dconst0 hx hb dX5_doubleBits_1 ?_
  refine lv_dcmp hx hb dX5_doubleBits_2 ?_
  refine lv_if_gt (tgt := 8) hx hb dX5_doubleBits_3 (by decide) (fun hc => ?_) (fun hc => ?_)
  · have hq := hq.1 hc
    refine lv_dload_n hx hb dX5_doubleBits_8 rfl (lv_at hl 0 rfl) ?_
    refine lv_dstore_n (lv' := [(2, .double x0), (0, .double x0)]) hx hb dX5_doubleBits_9 rfl hl (by decide) rfl (fun ls hl => ?_)
    refine lv_ldc2 hx hb hown (hts _ q3_135) dX5_doubleBits_10 ?_
    refine lv_lstore (lv' := [(4, .long (1023 : Int64)), (2, .double x0), (0, .double x0)]) hx hb dX5_doubleBits_13 hl (by decide) rfl (fun ls hl => ?_)
    refine lv_iconst (v := 0) hx hb dX5_doubleBits_15 (by decide) ?_
    refine lv_istore (lv' := [(6, .int (0 : Int32)), (4, .long (1023 : Int64)), (2, .double x0), (0, .double x0)]) hx hb dX5_doubleBits_16 hl (by decide) rfl (fun ls hl => ?_)
    obtain ⟨f, hq⟩ := hq
    exact s_X5_doubleBits_18  C0  f x0 (1023 : Int64) (0 : Int32) _ _ _ hq hH (lv_sub hl [2, 1, 0] rfl)
  · have hq := hq.2 hc
    refine lv_lconst (v := 0) hx hb dX5_doubleBits_6 (by decide) ?_
    exact w_eL hX hr hlk hH ⟨rfl, hq⟩ dX5_doubleBits_7
abbrev rm_X5_floatBits : Room := { frames := 0, cells := 0, slots := 0, locals := 0 }
theorem hd_X5_floatBits : yX5_floatBits.cls = RX5 ∧ yX5_floatBits.cls ≠ "java/lang/invoke/MethodHandle" ∧ yX5_floatBits.cls ≠ "java/lang/invoke/VarHandle" ∧ (parseMethodDescriptor yX5_floatBits.desc).map (fun d => d.parameters.length) = some 1 := by decide +kernel
set_option maxRecDepth 100000 in
set_option maxHeartbeats 4000000 in
theorem s_X5_floatBits_69 {x0 : UInt32} {I : wI} {Q : Int32 → Prop} (C0 : wCx p m c s args meth cX5_floatBits 4 RX5 (some .int) D cs ad b) : ∀ (v1 : UInt32) (v2 : Int32) (H : Heap) (locs : List Loc) (ls : Array Slot), v_X5_floatBits_69 x0 I Q v1 v2 → wH D cs b G I s H locs → lv_has ls 4 [(1, .float v1), (2, .int v2)] → W p l e rm_X5_floatBits s m args below meth c H locs 0 0 (MQ below (va_Qi (fun r I' => I' = I ∧ Q r) (wPo D cs b G) (fun q => b ≤ q)) args s 0 0 (fun q => b ≤ q)) (F0 m 69 ls []) := by
  obtain ⟨hX, hr, hlk, hK, hE⟩ := id C0
  have hx := hX.1
  have hb := hX.2.1
  have hown := hX.2.2.2.1
  have hts := hX.2.2.2.2
  intro v1 v2 H locs ls hq hH hl
  unfold v_X5_floatBits_69 at hq
  refine lv_iload_n hx hb dX5_floatBits_69 rfl (lv_at hl 1 rfl) ?_
  refine lv_bipush (v := 23) hx hb dX5_floatBits_70 (by decide) ?_
  refine lv_ishl hx hb dX5_floatBits_72 ?_
  refine lv_fload_n hx hb dX5_floatBits_73 rfl (lv_at hl 0 rfl) ?_
  refine lv_fconst1 hx hb dX5_floatBits_74 ?_
  obtain ⟨hc, hq⟩ := hq
  refine lv_fsub hx hb dX5_floatBits_75 hc ?_
  refine w_ldcfw hx hb hown (hts _ q3_142) dX5_floatBits_76 ?_
  obtain ⟨hc, hq⟩ := hq
  refine lv_fmul hx hb dX5_floatBits_79 hc ?_
  refine lv_f2i hx hb dX5_floatBits_80 ?_
  refine lv_ior hx hb dX5_floatBits_81 ?_
  exact w_eI hX hr hlk hH ⟨rfl, hq⟩ dX5_floatBits_82
set_option maxRecDepth 100000 in
set_option maxHeartbeats 4000000 in
theorem s_X5_floatBits_43 {x0 : UInt32} {I : wI} {Q : Int32 → Prop} (C0 : wCx p m c s args meth cX5_floatBits 4 RX5 (some .int) D cs ad b) : ∀ (f : Nat) (v1 : UInt32) (v2 : Int32) (v3 : Int32) (H : Heap) (locs : List Loc) (ls : Array Slot), v_X5_floatBits_43 x0 I Q f v1 v2 v3 → wH D cs b G I s H locs → lv_has ls 4 [(1, .float v1), (2, .int v2), (3, .int v3)] → W p l e rm_X5_floatBits s m args below meth c H locs 0 0 (MQ below (va_Qi (fun r I' => I' = I ∧ Q r) (wPo D cs b G) (fun q => b ≤ q)) args s 0 0 (fun q => b ≤ q)) (F0 m 43 ls []) := by
  obtain ⟨hX, hr, hlk, hK, hE⟩ := id C0
  have hx := hX.1
  have hb := hX.2.1
  have hown := hX.2.2.2.1
  have hts := hX.2.2.2.2
  intro f
  induction f with
  | zero =>
    intro v1 v2 v3 H locs ls hq
    exact hq.elim
  | succ f hK43 =>
    intro v1 v2 v3 H locs ls hq hH hl
    have hq : g_X5_floatBits_43 x0 I Q (v_X5_floatBits_43 x0 I Q f) v1 v2 v3 := hq
    unfold g_X5_floatBits_43 at hq
    refine lv_iload_n hx hb dX5_floatBits_43 rfl (lv_at hl 2 rfl) ?_
    refine lv_sipush (v := 2000) hx hb dX5_floatBits_44 (by decide) ?_
    refine lv_icmp_ge (tgt := 69) hx hb dX5_floatBits_47 (by decide) (fun hc => ?_) (fun hc => ?_)
    · have hq := hq.1 hc
      exact s_X5_floatBits_69  C0  v1 v2 _ _ _ hq hH (lv_sub hl [0, 1] rfl)
    · have hq := hq.2 hc
      refine lv_fload_n hx hb dX5_floatBits_50 rfl (lv_at hl 0 rfl) ?_
      refine lv_fconst2 hx hb dX5_floatBits_51 ?_
      refine lv_fcmp hx hb dX5_floatBits_52 ?_
      refine lv_if_lt (tgt := 69) hx hb dX5_floatBits_53 (by decide) (fun hc => ?_) (fun hc => ?_)
      · have hq := hq.1 hc
        exact s_X5_floatBits_69  C0  v1 v2 _ _ _ hq hH (lv_sub hl [0, 1] rfl)
      · have hq := hq.2 hc
        refine lv_fload_n hx hb dX5_floatBits_56 rfl (lv_at hl 0 rfl) ?_
        refine lv_fconst2 hx hb dX5_floatBits_57 ?_
        obtain ⟨hc, hq⟩ := hq
        refine lv_fdiv hx hb dX5_floatBits_58 hc ?_
        refine lv_fstore_n (lv' := [(1, .float (FP.fdiv v1 FP.fconst2)), (2, .int v2), (3, .int v3)]) hx hb dX5_floatBits_59 rfl hl (by decide) rfl (fun ls hl => ?_)
        refine lv_iinc (v := (v2 + (1 : Int32))) (lv' := [(2, .int (v2 + (1 : Int32))), (1, .float (FP.fdiv v1 FP.fconst2)), (3, .int v3)]) hx hb dX5_floatBits_60 hl (k := 1) rfl rfl (by decide) rfl (fun ls hl => ?_)
        refine lv_iinc (v := (v3 + (1 : Int32))) (lv' := [(3, .int (v3 + (1 : Int32))), (2, .int (v2 + (1 : Int32))), (1, .float (FP.fdiv v1 FP.fconst2))]) hx hb dX5_floatBits_63 hl (k := 2) rfl rfl (by decide) rfl (fun ls hl => ?_)
        refine lv_goto (tgt := 43) hx hb dX5_floatBits_66 (by decide) ?_
        exact hK43 (FP.fdiv v1 FP.fconst2) (v2 + (1 : Int32)) (v3 + (1 : Int32)) _ _ _ hq hH (lv_sub hl [2, 1, 0] rfl)
set_option maxRecDepth 100000 in
set_option maxHeartbeats 4000000 in
theorem s_X5_floatBits_41 {x0 : UInt32} {I : wI} {Q : Int32 → Prop} (C0 : wCx p m c s args meth cX5_floatBits 4 RX5 (some .int) D cs ad b) : ∀ (v1 : UInt32) (v2 : Int32) (H : Heap) (locs : List Loc) (ls : Array Slot), v_X5_floatBits_41 x0 I Q v1 v2 → wH D cs b G I s H locs → lv_has ls 4 [(1, .float v1), (2, .int v2)] → W p l e rm_X5_floatBits s m args below meth c H locs 0 0 (MQ below (va_Qi (fun r I' => I' = I ∧ Q r) (wPo D cs b G) (fun q => b ≤ q)) args s 0 0 (fun q => b ≤ q)) (F0 m 41 ls []) := by
  obtain ⟨hX, hr, hlk, hK, hE⟩ := id C0
  have hx := hX.1
  have hb := hX.2.1
  have hown := hX.2.2.2.1
  have hts := hX.2.2.2.2
  intro v1 v2 H locs ls hq hH hl
  unfold v_X5_floatBits_41 at hq
  refine lv_iconst (v := 0) hx hb dX5_floatBits_41 (by decide) ?_
  refine lv_istore_n (lv' := [(3, .int (0 : Int32)), (1, .float v1), (2, .int v2)]) hx hb dX5_floatBits_42 rfl hl (by decide) rfl (fun ls hl => ?_)
  obtain ⟨f, hq⟩ := hq
  exact s_X5_floatBits_43  C0  f v1 v2 (0 : Int32) _ _ _ hq hH (lv_sub hl [1, 2, 0] rfl)
set_option maxRecDepth 100000 in
set_option maxHeartbeats 4000000 in
theorem s_X5_floatBits_15 {x0 : UInt32} {I : wI} {Q : Int32 → Prop} (C0 : wCx p m c s args meth cX5_floatBits 4 RX5 (some .int) D cs ad b) : ∀ (f : Nat) (v1 : UInt32) (v2 : Int32) (v3 : Int32) (H : Heap) (locs : List Loc) (ls : Array Slot), v_X5_floatBits_15 x0 I Q f v1 v2 v3 → wH D cs b G I s H locs → lv_has ls 4 [(1, .float v1), (2, .int v2), (3, .int v3)] → W p l e rm_X5_floatBits s m args below meth c H locs 0 0 (MQ below (va_Qi (fun r I' => I' = I ∧ Q r) (wPo D cs b G) (fun q => b ≤ q)) args s 0 0 (fun q => b ≤ q)) (F0 m 15 ls []) := by
  obtain ⟨hX, hr, hlk, hK, hE⟩ := id C0
  have hx := hX.1
  have hb := hX.2.1
  have hown := hX.2.2.2.1
  have hts := hX.2.2.2.2
  intro f
  induction f with
  | zero =>
    intro v1 v2 v3 H locs ls hq
    exact hq.elim
  | succ f hK15 =>
    intro v1 v2 v3 H locs ls hq hH hl
    have hq : g_X5_floatBits_15 x0 I Q (v_X5_floatBits_15 x0 I Q f) v1 v2 v3 := hq
    unfold g_X5_floatBits_15 at hq
    refine lv_iload_n hx hb dX5_floatBits_15 rfl (lv_at hl 2 rfl) ?_
    refine lv_sipush (v := 2000) hx hb dX5_floatBits_16 (by decide) ?_
    refine lv_icmp_ge (tgt := 41) hx hb dX5_floatBits_19 (by decide) (fun hc => ?_) (fun hc => ?_)
    · have hq := hq.1 hc
      exact s_X5_floatBits_41  C0  v1 v2 _ _ _ hq hH (lv_sub hl [0, 1] rfl)
    · have hq := hq.2 hc
      refine lv_fload_n hx hb dX5_floatBits_22 rfl (lv_at hl 0 rfl) ?_
      refine lv_fconst1 hx hb dX5_floatBits_23 ?_
      refine lv_fcmp hx hb dX5_floatBits_24 ?_
      refine lv_if_ge (tgt := 41) hx hb dX5_floatBits_25 (by decide) (fun hc => ?_) (fun hc => ?_)
      · have hq := hq.1 hc
        exact s_X5_floatBits_41  C0  v1 v2 _ _ _ hq hH (lv_sub hl [0, 1] rfl)
      · have hq := hq.2 hc
        refine lv_fload_n hx hb dX5_floatBits_28 rfl (lv_at hl 0 rfl) ?_
        refine lv_fconst2 hx hb dX5_floatBits_29 ?_
        obtain ⟨hc, hq⟩ := hq
        refine lv_fmul hx hb dX5_floatBits_30 hc ?_
        refine lv_fstore_n (lv' := [(1, .float (FP.fmul v1 FP.fconst2)), (2, .int v2), (3, .int v3)]) hx hb dX5_floatBits_31 rfl hl (by decide) rfl (fun ls hl => ?_)
        refine lv_iinc (v := (v2 + (-1 : Int32))) (lv' := [(2, .int (v2 + (-1 : Int32))), (1, .float (FP.fmul v1 FP.fconst2)), (3, .int v3)]) hx hb dX5_floatBits_32 hl (k := 1) rfl rfl (by decide) rfl (fun ls hl => ?_)
        refine lv_iinc (v := (v3 + (1 : Int32))) (lv' := [(3, .int (v3 + (1 : Int32))), (2, .int (v2 + (-1 : Int32))), (1, .float (FP.fmul v1 FP.fconst2))]) hx hb dX5_floatBits_35 hl (k := 2) rfl rfl (by decide) rfl (fun ls hl => ?_)
        refine lv_goto (tgt := 15) hx hb dX5_floatBits_38 (by decide) ?_
        exact hK15 (FP.fmul v1 FP.fconst2) (v2 + (-1 : Int32)) (v3 + (1 : Int32)) _ _ _ hq hH (lv_sub hl [2, 1, 0] rfl)
set_option maxRecDepth 100000 in
set_option maxHeartbeats 4000000 in
theorem c_X5_floatBits {l : Launch} {D : va_G} {cs : wC4} {ad : Nat → Nat} {b : Nat} {G : wG} (x0 : UInt32) (I : wI) (hp : pre_X5_floatBits x0 I) : Met l yX5_floatBits (ws_ yX5_floatBits cX5_floatBits 4 (some .int)) rm_X5_floatBits (va_Pc [.float x0] (wPr D cs ad b G I)) (va_Qi (fun r I' => I' = I ∧ post_X5_floatBits x0 I r) (wPo D cs b G) (fun q => b ≤ q)) 0 0 (fun q => b ≤ q) := by
  have hq := vc_X5_floatBits x0 I hp
  refine w_met (by decide) (Nat.le_of_ble_eq_true rfl) ?_
  intro p e s m below meth c hX hr hlk hK hE hH ls hl
  have C0 : wCx p m c s _ meth cX5_floatBits 4 RX5 (some .int) D cs ad b := ⟨hX, hr, hlk, hK, hE⟩
  have hX : CallFix p m c cX5_floatBits 4 s _ lw_all RX5 := hX
  have hx := hX.1
  have hb := hX.2.1
  have hown := hX.2.2.2.1
  have hts := hX.2.2.2.2
  have hl : lv_has ls 4 [(0, .float x0)] := hl
  unfold v_X5_floatBits at hq
  refine lv_fload_n hx hb dX5_floatBits_0 rfl (lv_at hl 0 rfl) ?_
  refine lv_fconst0 hx hb dX5_floatBits_1 ?_
  refine lv_fcmp hx hb dX5_floatBits_2 ?_
  refine lv_if_gt (tgt := 8) hx hb dX5_floatBits_3 (by decide) (fun hc => ?_) (fun hc => ?_)
  · have hq := hq.1 hc
    refine lv_fload_n hx hb dX5_floatBits_8 rfl (lv_at hl 0 rfl) ?_
    refine lv_fstore_n (lv' := [(1, .float x0), (0, .float x0)]) hx hb dX5_floatBits_9 rfl hl (by decide) rfl (fun ls hl => ?_)
    refine lv_bipush (v := 127) hx hb dX5_floatBits_10 (by decide) ?_
    refine lv_istore_n (lv' := [(2, .int (127 : Int32)), (1, .float x0), (0, .float x0)]) hx hb dX5_floatBits_12 rfl hl (by decide) rfl (fun ls hl => ?_)
    refine lv_iconst (v := 0) hx hb dX5_floatBits_13 (by decide) ?_
    refine lv_istore_n (lv' := [(3, .int (0 : Int32)), (2, .int (127 : Int32)), (1, .float x0), (0, .float x0)]) hx hb dX5_floatBits_14 rfl hl (by decide) rfl (fun ls hl => ?_)
    obtain ⟨f, hq⟩ := hq
    exact s_X5_floatBits_15  C0  f x0 (127 : Int32) (0 : Int32) _ _ _ hq hH (lv_sub hl [2, 1, 0] rfl)
  · have hq := hq.2 hc
    refine lv_iconst (v := 0) hx hb dX5_floatBits_6 (by decide) ?_
    exact w_eI hX hr hlk hH ⟨rfl, hq⟩ dX5_floatBits_7
abbrev rm_X5_mixBuffer : Room := { frames := 1, cells := 0, slots := 0, locals := 23 }
theorem hd_X5_mixBuffer : yX5_mixBuffer.cls = RX5 ∧ yX5_mixBuffer.cls ≠ "java/lang/invoke/MethodHandle" ∧ yX5_mixBuffer.cls ≠ "java/lang/invoke/VarHandle" ∧ (parseMethodDescriptor yX5_mixBuffer.desc).map (fun d => d.parameters.length) = some 1 := by decide +kernel
set_option maxRecDepth 100000 in
set_option maxHeartbeats 4000000 in
theorem s_X5_mixBuffer_56 {x1 : Int64} {I : wI} {Q : Int64 → Prop} (C0 : wCx p m c s args meth cX5_mixBuffer 6 RX5 (some .long) D cs ad b) : ∀ (v3 : Int64) (H : Heap) (locs : List Loc) (ls : Array Slot), v_X5_mixBuffer_56 x1 I Q v3 → wH D cs b G I s H locs → lv_has ls 6 [(3, .long v3)] → W p l e rm_X5_mixBuffer s m args below meth c H locs 0 0 (MQ below (va_Ql (fun r I' => I' = I ∧ Q r) (wPo D cs b G) (fun q => b ≤ q)) args s 0 0 (fun q => b ≤ q)) (F0 m 56 ls []) := by
  obtain ⟨hX, hr, hlk, hK, hE⟩ := id C0
  have hx := hX.1
  have hb := hX.2.1
  have hown := hX.2.2.2.1
  have hts := hX.2.2.2.2
  intro v3 H locs ls hq hH hl
  unfold v_X5_mixBuffer_56 at hq
  refine lv_lload_n hx hb dX5_mixBuffer_56 rfl (lv_at hl 0 rfl) ?_
  exact w_eL hX hr hlk hH ⟨rfl, hq⟩ dX5_mixBuffer_57
set_option maxRecDepth 100000 in
set_option maxHeartbeats 4000000 in
theorem s_X5_mixBuffer_16 {x1 : Int64} {I : wI} {Q : Int64 → Prop} (C0 : wCx p m c s args meth cX5_mixBuffer 6 RX5 (some .long) D cs ad b) : ∀ (f : Nat) (v3 : Int64) (v5 : Int32) (H : Heap) (locs : List Loc) (ls : Array Slot), v_X5_mixBuffer_16 x1 I Q f v3 v5 → wH D cs b G I s H locs → lv_has ls 6 [(0, .ref (b + 0)), (3, .long v3), (5, .int v5)] → W p l e rm_X5_mixBuffer s m args below meth c H locs 0 0 (MQ below (va_Ql (fun r I' => I' = I ∧ Q r) (wPo D cs b G) (fun q => b ≤ q)) args s 0 0 (fun q => b ≤ q)) (F0 m 16 ls []) := by
  obtain ⟨hX, hr, hlk, hK, hE⟩ := id C0
  have hx := hX.1
  have hb := hX.2.1
  have hown := hX.2.2.2.1
  have hts := hX.2.2.2.2
  intro f
  induction f with
  | zero =>
    intro v3 v5 H locs ls hq
    exact hq.elim
  | succ f hK16 =>
    intro v3 v5 H locs ls hq hH hl
    have hq : g_X5_mixBuffer_16 x1 I Q (v_X5_mixBuffer_16 x1 I Q f) v3 v5 := hq
    unfold g_X5_mixBuffer_16 at hq
    refine lv_iload hx hb dX5_mixBuffer_16 (lv_at hl 2 rfl) ?_
    refine lv_aload_n hx hb dX5_mixBuffer_18 rfl (lv_at hl 0 rfl) ?_
    refine w_getr hX hK hH ck5 sh0 5 24 24 fr5_5 rfl q1_183 dX5_mixBuffer_19 ?_
    refine w_getiN hX hK hE hH ck4 (sf5_5 sh0) 1 fi4_1 qn1_108 dX5_mixBuffer_22 ?_
    refine lv_icmp_ge (tgt := 56) hx hb dX5_mixBuffer_25 (by decide) (fun hc => ?_) (fun hc => ?_)
    · have hq := hq.1 hc
      exact s_X5_mixBuffer_56  C0  v3 _ _ _ hq hH (lv_sub hl [1] rfl)
    · have hq := hq.2 hc
      refine lv_iload hx hb dX5_mixBuffer_28 (lv_at hl 2 rfl) ?_
      refine lv_bipush (v := 60) hx hb dX5_mixBuffer_30 (by decide) ?_
      refine lv_icmp_ge (tgt := 56) hx hb dX5_mixBuffer_32 (by decide) (fun hc => ?_) (fun hc => ?_)
      · have hq := hq.1 hc
        exact s_X5_mixBuffer_56  C0  v3 _ _ _ hq hH (lv_sub hl [1] rfl)
      · have hq := hq.2 hc
        refine lv_lload_n hx hb dX5_mixBuffer_35 rfl (lv_at hl 1 rfl) ?_
        refine lv_aload_n hx hb dX5_mixBuffer_36 rfl (lv_at hl 0 rfl) ?_
        refine w_getr hX hK hH ck5 sh0 5 24 24 fr5_5 rfl q1_183 dX5_mixBuffer_37 ?_
        refine lv_iload hx hb dX5_mixBuffer_40 (lv_at hl 2 rfl) ?_
        obtain ⟨hp, hq⟩ := hq
        refine w_cIp hH (w_rV (As := [.int v5]) (rest := [.long v3]) hX hK hE hH (c_X4_signAt (sf5_5 sh0) _ _ hp) ck4 (sf5_5 sh0) q3_147 q2_30 q2_31 q1_5 q2_32 hd_X4_signAt ⟨Nat.le_of_ble_eq_true rfl, Nat.le_of_ble_eq_true rfl⟩ ⟨rfl, rfl⟩ rfl hl.1 rfl (Nat.le_of_ble_eq_true rfl) dX5_mixBuffer_42 ⟨Nat.zero_le _, Nat.zero_le _⟩) (fun r1  H locs hpo hH => ?_)
        have hq := hq r1  hpo
        refine lv_i2l hx hb dX5_mixBuffer_45 rfl ?_
        obtain ⟨hp, hq⟩ := hq
        refine w_cLp hH (w_rS (As := [.long v3, .long (r1).toInt64]) (rest := []) hX hK hE hH (c_X5_mix  _ _ _ hp) q2_222 q2_223 q1_1 q2_224 hd_X5_mix.2 ⟨Nat.le_of_ble_eq_true rfl, Nat.le_of_ble_eq_true rfl⟩ ⟨rfl, rfl⟩ rfl hl.1 rfl (Nat.le_of_ble_eq_true rfl) dX5_mixBuffer_46 ⟨Nat.zero_le _, Nat.zero_le _⟩) (fun r2  H locs hpo hH => ?_)
        have hq := hq r2  hpo
        refine lv_lstore_n (lv' := [(3, .long r2), (0, .ref (b + 0)), (5, .int v5)]) hx hb dX5_mixBuffer_49 rfl hl (by decide) rfl (fun ls hl => ?_)
        refine lv_iinc (v := (v5 + (1 : Int32))) (lv' := [(5, .int (v5 + (1 : Int32))), (3, .long r2), (0, .ref (b + 0))]) hx hb dX5_mixBuffer_50 hl (k := 2) rfl rfl (by decide) rfl (fun ls hl => ?_)
        refine lv_goto (tgt := 16) hx hb dX5_mixBuffer_53 (by decide) ?_
        exact hK16 r2 (v5 + (1 : Int32)) _ _ _ hq hH (lv_sub hl [2, 1, 0] rfl)
set_option maxRecDepth 100000 in
set_option maxHeartbeats 4000000 in
theorem c_X5_mixBuffer {l : Launch} {D : va_G} {cs : wC4} {ad : Nat → Nat} {b : Nat} {G : wG} (x1 : Int64) (I : wI) (hp : pre_X5_mixBuffer x1 I) : Met l yX5_mixBuffer (ws_ yX5_mixBuffer cX5_mixBuffer 6 (some .long)) rm_X5_mixBuffer (va_Pc [.ref (b + 0), .long x1] (wPr D cs ad b G I)) (va_Ql (fun r I' => I' = I ∧ post_X5_mixBuffer x1 I r) (wPo D cs b G) (fun q => b ≤ q)) 0 0 (fun q => b ≤ q) := by
  have hq := vc_X5_mixBuffer x1 I hp
  refine w_met (by decide) (Nat.le_of_ble_eq_true rfl) ?_
  intro p e s m below meth c hX hr hlk hK hE hH ls hl
  have C0 : wCx p m c s _ meth cX5_mixBuffer 6 RX5 (some .long) D cs ad b := ⟨hX, hr, hlk, hK, hE⟩
  have hX : CallFix p m c cX5_mixBuffer 6 s _ lw_all RX5 := hX
  have hx := hX.1
  have hb := hX.2.1
  have hown := hX.2.2.2.1
  have hts := hX.2.2.2.2
  have hl : lv_has ls 6 [(0, .ref (b + 0)), (1, .long x1)] := hl
  unfold v_X5_mixBuffer at hq
  refine lv_lload_n hx hb dX5_mixBuffer_0 rfl (lv_at hl 1 rfl) ?_
  refine lv_aload_n hx hb dX5_mixBuffer_1 rfl (lv_at hl 0 rfl) ?_
  refine w_getr hX hK hH ck5 sh0 5 24 24 fr5_5 rfl q1_183 dX5_mixBuffer_2 ?_
  refine w_getiN hX hK hE hH ck4 (sf5_5 sh0) 1 fi4_1 qn1_108 dX5_mixBuffer_5 ?_
  refine lv_i2l hx hb dX5_mixBuffer_8 rfl ?_
  obtain ⟨hp, hq⟩ := hq
  refine w_cLp hH (w_rS (As := [.long x1, .long ((I 24 1)).toInt64]) (rest := []) hX hK hE hH (c_X5_mix  _ _ _ hp) q2_222 q2_223 q1_1 q2_224 hd_X5_mix.2 ⟨Nat.le_of_ble_eq_true rfl, Nat.le_of_ble_eq_true rfl⟩ ⟨rfl, rfl⟩ rfl hl.1 rfl (Nat.le_of_ble_eq_true rfl) dX5_mixBuffer_9 ⟨Nat.zero_le _, Nat.zero_le _⟩) (fun r1  H locs hpo hH => ?_)
  have hq := hq r1  hpo
  refine lv_lstore_n (lv' := [(3, .long r1), (0, .ref (b + 0)), (1, .long x1)]) hx hb dX5_mixBuffer_12 rfl hl (by decide) rfl (fun ls hl => ?_)
  refine lv_iconst (v := 0) hx hb dX5_mixBuffer_13 (by decide) ?_
  refine lv_istore (lv' := [(5, .int (0 : Int32)), (3, .long r1), (0, .ref (b + 0)), (1, .long x1)]) hx hb dX5_mixBuffer_14 hl (by decide) rfl (fun ls hl => ?_)
  obtain ⟨f, hq⟩ := hq
  exact s_X5_mixBuffer_16  C0  f r1 (0 : Int32) _ _ _ hq hH (lv_sub hl [2, 1, 0] rfl)
abbrev rm_X5_digest : Room := { frames := 11, cells := 0, slots := 0, locals := 190 }
theorem hd_X5_digest : yX5_digest.cls = RX5 ∧ yX5_digest.cls ≠ "java/lang/invoke/MethodHandle" ∧ yX5_digest.cls ≠ "java/lang/invoke/VarHandle" ∧ (parseMethodDescriptor yX5_digest.desc).map (fun d => d.parameters.length) = some 0 := by decide +kernel
set_option maxRecDepth 100000 in
set_option maxHeartbeats 4000000 in
theorem s_X5_digest_117 {Q : Int64 → wI → Prop} (C0 : wCx p m c s args meth cX5_digest 4 RX5 (some .long) D cs ad b) : ∀ (t0 : Int64) (t1 : Int64) (I : wI) (H : Heap) (locs : List Loc) (ls : Array Slot), v_X5_digest_117 Q t0 t1 I → wH D cs b G I s H locs → lv_has ls 4 [(0, .ref (b + 0))] → W p l e rm_X5_digest s m args below meth c H locs 0 0 (MQ below (va_Ql (Q) (wPo D cs b G) (fun q => b ≤ q)) args s 0 0 (fun q => b ≤ q)) (F0 m 117 ls [.long t0, .long t1]) := by
  obtain ⟨hX, hr, hlk, hK, hE⟩ := id C0
  have hx := hX.1
  have hb := hX.2.1
  have hown := hX.2.2.2.1
  have hts := hX.2.2.2.2
  intro t0 t1 I H locs ls hq hH hl
  unfold v_X5_digest_117 at hq
  obtain ⟨hp, hq⟩ := hq
  refine w_cLp hH (w_rS (As := [.long t1, .long t0]) (rest := []) hX hK hE hH (c_X5_mix  _ _ _ hp) q2_222 q2_223 q1_1 q2_224 hd_X5_mix.2 ⟨Nat.le_of_ble_eq_true rfl, Nat.le_of_ble_eq_true rfl⟩ ⟨rfl, rfl⟩ rfl hl.1 rfl (Nat.le_of_ble_eq_true rfl) dX5_digest_117 ⟨Nat.zero_le _, Nat.zero_le _⟩) (fun r1  H locs hpo hH => ?_)
  have hq := hq r1  hpo
  refine lv_lstore_n (lv' := [(1, .long r1), (0, .ref (b + 0))]) hx hb dX5_digest_120 rfl hl (by decide) rfl (fun ls hl => ?_)
  refine lv_aload_n hx hb dX5_digest_121 rfl (lv_at hl 1 rfl) ?_
  refine lv_lload_n hx hb dX5_digest_122 rfl (lv_at hl 0 rfl) ?_
  obtain ⟨hp, hq⟩ := hq
  refine w_cLp hH (w_rV (As := [.long r1]) (rest := []) hX hK hE hH (c_X5_mixBuffer  _ _ hp) ck5 sh0 q3_143 q3_145 qs25 q1_1 q3_146 hd_X5_mixBuffer ⟨Nat.le_of_ble_eq_true rfl, Nat.le_of_ble_eq_true rfl⟩ ⟨rfl, rfl⟩ rfl hl.1 rfl (Nat.le_of_ble_eq_true rfl) dX5_digest_123 ⟨Nat.zero_le _, Nat.zero_le _⟩) (fun r2  H locs hpo hH => ?_)
  have hq := hq r2  hpo
  exact w_eL hX hr hlk hH hq dX5_digest_126
set_option maxRecDepth 100000 in
set_option maxHeartbeats 4000000 in
theorem s_X5_digest_6 {Q : Int64 → wI → Prop} (C0 : wCx p m c s args meth cX5_digest 4 RX5 (some .long) D cs ad b) : ∀ (f : Nat) (v1 : Int64) (v3 : Int32) (I : wI) (H : Heap) (locs : List Loc) (ls : Array Slot), v_X5_digest_6 Q f v1 v3 I → wH D cs b G I s H locs → lv_has ls 4 [(0, .ref (b + 0)), (1, .long v1), (3, .int v3)] → W p l e rm_X5_digest s m args below meth c H locs 0 0 (MQ below (va_Ql (Q) (wPo D cs b G) (fun q => b ≤ q)) args s 0 0 (fun q => b ≤ q)) (F0 m 6 ls []) := by
  obtain ⟨hX, hr, hlk, hK, hE⟩ := id C0
  have hx := hX.1
  have hb := hX.2.1
  have hown := hX.2.2.2.1
  have hts := hX.2.2.2.2
  intro f
  induction f with
  | zero =>
    intro v1 v3 I H locs ls hq
    exact hq.elim
  | succ f hK6 =>
    intro v1 v3 I H locs ls hq hH hl
    have hq : g_X5_digest_6 Q (v_X5_digest_6 Q f) v1 v3 I := hq
    unfold g_X5_digest_6 at hq
    refine lv_iload_n hx hb dX5_digest_6 rfl (lv_at hl 2 rfl) ?_
    refine lv_bipush (v := 9) hx hb dX5_digest_7 (by decide) ?_
    refine lv_icmp_gt (tgt := 29) hx hb dX5_digest_9 (by decide) (fun hc => ?_) (fun hc => ?_)
    · have hq := hq.1 hc
      refine lv_aload_n hx hb dX5_digest_29 rfl (lv_at hl 0 rfl) ?_
      refine lv_lload_n hx hb dX5_digest_30 rfl (lv_at hl 1 rfl) ?_
      obtain ⟨hp, hq⟩ := hq
      refine w_cLp hH (w_rV (As := [.long v1]) (rest := []) hX hK hE hH (c_X5_mixPositions  _ _ hp) ck5 sh0 q2_226 q2_228 qs13 q1_1 q2_229 hd_X5_mixPositions ⟨Nat.le_of_ble_eq_true rfl, Nat.le_of_ble_eq_true rfl⟩ ⟨rfl, rfl⟩ rfl hl.1 rfl (Nat.le_of_ble_eq_true rfl) dX5_digest_31 ⟨Nat.zero_le _, Nat.zero_le _⟩) (fun r1  H locs hpo hH => ?_)
      have hq := hq r1  hpo
      refine lv_lstore_n (lv' := [(1, .long r1), (0, .ref (b + 0)), (3, .int v3)]) hx hb dX5_digest_34 rfl hl (by decide) rfl (fun ls hl => ?_)
      refine lv_aload_n hx hb dX5_digest_35 rfl (lv_at hl 1 rfl) ?_
      refine lv_lload_n hx hb dX5_digest_36 rfl (lv_at hl 0 rfl) ?_
      obtain ⟨hp, hq⟩ := hq
      refine w_cL hH (w_rV (As := [.long r1]) (rest := []) hX hK hE hH (c_X5_mixKeys  _ _ hp) ck5 sh0 q3_32 q3_34 qs14 q1_1 q3_35 hd_X5_mixKeys ⟨Nat.le_of_ble_eq_true rfl, Nat.le_of_ble_eq_true rfl⟩ ⟨rfl, rfl⟩ rfl hl.1 rfl (Nat.le_of_ble_eq_true rfl) dX5_digest_37 ⟨Nat.zero_le _, Nat.zero_le _⟩) (fun r2 I3 H locs hpo hH => ?_)
      have hq := hq r2 I3 hpo
      refine lv_lstore_n (lv' := [(1, .long r2), (0, .ref (b + 0)), (3, .int v3)]) hx hb dX5_digest_40 rfl hl (by decide) rfl (fun ls hl => ?_)
      refine lv_aload_n hx hb dX5_digest_41 rfl (lv_at hl 1 rfl) ?_
      refine lv_lload_n hx hb dX5_digest_42 rfl (lv_at hl 0 rfl) ?_
      obtain ⟨hp, hq⟩ := hq
      refine w_cL hH (w_rV (As := [.long r2]) (rest := []) hX hK hE hH (c_X5_mixPairs  _ _ hp) ck5 sh0 q3_81 q3_83 qs18 q1_1 q3_84 hd_X5_mixPairs ⟨Nat.le_of_ble_eq_true rfl, Nat.le_of_ble_eq_true rfl⟩ ⟨rfl, rfl⟩ rfl hl.1 rfl (Nat.le_of_ble_eq_true rfl) dX5_digest_43 ⟨Nat.zero_le _, Nat.zero_le _⟩) (fun r4 I5 H locs hpo hH => ?_)
      have hq := hq r4 I5 hpo
      refine lv_lstore_n (lv' := [(1, .long r4), (0, .ref (b + 0)), (3, .int v3)]) hx hb dX5_digest_46 rfl hl (by decide) rfl (fun ls hl => ?_)
      refine lv_lload_n hx hb dX5_digest_47 rfl (lv_at hl 0 rfl) ?_
      refine lv_aload_n hx hb dX5_digest_48 rfl (lv_at hl 1 rfl) ?_
      refine lv_iconst (v := 0) hx hb dX5_digest_49 (by decide) ?_
      obtain ⟨hp, hq⟩ := hq
      refine w_cI hH (w_rV (As := [.int (0 : Int32)]) (rest := [.long r4]) hX hK hE hH (c_X5_openIn  _ _ hp) ck5 sh0 q3_89 q3_90 q3_91 q1_1 q3_92 hd_X5_openIn ⟨Nat.le_of_ble_eq_true rfl, Nat.le_of_ble_eq_true rfl⟩ ⟨rfl, rfl⟩ rfl hl.1 rfl (Nat.le_of_ble_eq_true rfl) dX5_digest_50 ⟨Nat.zero_le _, Nat.zero_le _⟩) (fun r6 I7 H locs hpo hH => ?_)
      have hq := hq r6 I7 hpo
      refine lv_i2l hx hb dX5_digest_53 rfl ?_
      obtain ⟨hp, hq⟩ := hq
      refine w_cLp hH (w_rS (As := [.long r4, .long (r6).toInt64]) (rest := []) hX hK hE hH (c_X5_mix  _ _ _ hp) q2_222 q2_223 q1_1 q2_224 hd_X5_mix.2 ⟨Nat.le_of_ble_eq_true rfl, Nat.le_of_ble_eq_true rfl⟩ ⟨rfl, rfl⟩ rfl hl.1 rfl (Nat.le_of_ble_eq_true rfl) dX5_digest_54 ⟨Nat.zero_le _, Nat.zero_le _⟩) (fun r8  H locs hpo hH => ?_)
      have hq := hq r8  hpo
      refine lv_lstore_n (lv' := [(1, .long r8), (0, .ref (b + 0)), (3, .int v3)]) hx hb dX5_digest_57 rfl hl (by decide) rfl (fun ls hl => ?_)
      refine lv_lload_n hx hb dX5_digest_58 rfl (lv_at hl 0 rfl) ?_
      refine lv_aload_n hx hb dX5_digest_59 rfl (lv_at hl 1 rfl) ?_
      refine lv_iconst (v := 1) hx hb dX5_digest_60 (by decide) ?_
      obtain ⟨hp, hq⟩ := hq
      refine w_cI hH (w_rV (As := [.int (1 : Int32)]) (rest := [.long r8]) hX hK hE hH (c_X5_openIn  _ _ hp) ck5 sh0 q3_89 q3_90 q3_91 q1_1 q3_92 hd_X5_openIn ⟨Nat.le_of_ble_eq_true rfl, Nat.le_of_ble_eq_true rfl⟩ ⟨rfl, rfl⟩ rfl hl.1 rfl (Nat.le_of_ble_eq_true rfl) dX5_digest_61 ⟨Nat.zero_le _, Nat.zero_le _⟩) (fun r9 I10 H locs hpo hH => ?_)
      have hq := hq r9 I10 hpo
      refine lv_i2l hx hb dX5_digest_64 rfl ?_
      obtain ⟨hp, hq⟩ := hq
      refine w_cLp hH (w_rS (As := [.long r8, .long (r9).toInt64]) (rest := []) hX hK hE hH (c_X5_mix  _ _ _ hp) q2_222 q2_223 q1_1 q2_224 hd_X5_mix.2 ⟨Nat.le_of_ble_eq_true rfl, Nat.le_of_ble_eq_true rfl⟩ ⟨rfl, rfl⟩ rfl hl.1 rfl (Nat.le_of_ble_eq_true rfl) dX5_digest_65 ⟨Nat.zero_le _, Nat.zero_le _⟩) (fun r11  H locs hpo hH => ?_)
      have hq := hq r11  hpo
      refine lv_lstore_n (lv' := [(1, .long r11), (0, .ref (b + 0)), (3, .int v3)]) hx hb dX5_digest_68 rfl hl (by decide) rfl (fun ls hl => ?_)
      refine lv_lload_n hx hb dX5_digest_69 rfl (lv_at hl 0 rfl) ?_
      refine lv_aload_n hx hb dX5_digest_70 rfl (lv_at hl 1 rfl) ?_
      obtain ⟨hp, hq⟩ := hq
      refine w_cI hH (w_rV (As := []) (rest := [.long r11]) hX hK hE hH (c_X5_closest   _ hp) ck5 sh0 q3_130 q2_87 q2_88 q1_1 q2_89 hd_X5_closest ⟨Nat.le_of_ble_eq_true rfl, Nat.le_of_ble_eq_true rfl⟩ ⟨rfl, rfl⟩ rfl hl.1 rfl (Nat.le_of_ble_eq_true rfl) dX5_digest_71 ⟨Nat.zero_le _, Nat.zero_le _⟩) (fun r12 I13 H locs hpo hH => ?_)
      have hq := hq r12 I13 hpo
      refine lv_i2l hx hb dX5_digest_74 rfl ?_
      obtain ⟨hp, hq⟩ := hq
      refine w_cLp hH (w_rS (As := [.long r11, .long (r12).toInt64]) (rest := []) hX hK hE hH (c_X5_mix  _ _ _ hp) q2_222 q2_223 q1_1 q2_224 hd_X5_mix.2 ⟨Nat.le_of_ble_eq_true rfl, Nat.le_of_ble_eq_true rfl⟩ ⟨rfl, rfl⟩ rfl hl.1 rfl (Nat.le_of_ble_eq_true rfl) dX5_digest_75 ⟨Nat.zero_le _, Nat.zero_le _⟩) (fun r14  H locs hpo hH => ?_)
      have hq := hq r14  hpo
      refine lv_lstore_n (lv' := [(1, .long r14), (0, .ref (b + 0)), (3, .int v3)]) hx hb dX5_digest_78 rfl hl (by decide) rfl (fun ls hl => ?_)
      refine lv_lload_n hx hb dX5_digest_79 rfl (lv_at hl 0 rfl) ?_
      refine lv_aload_n hx hb dX5_digest_80 rfl (lv_at hl 1 rfl) ?_
      obtain ⟨hp, hq⟩ := hq
      refine w_cDp hH (w_rV (As := []) (rest := [.long r14]) hX hK hE hH (c_X5_openShare   _ hp) ck5 sh0 q3_131 q2_113 q2_114 q1_1 q2_115 hd_X5_openShare ⟨Nat.le_of_ble_eq_true rfl, Nat.le_of_ble_eq_true rfl⟩ ⟨rfl, rfl⟩ rfl hl.1 rfl (Nat.le_of_ble_eq_true rfl) dX5_digest_81 ⟨Nat.zero_le _, Nat.zero_le _⟩) (fun r15  H locs hpo hH => ?_)
      have hq := hq r15  hpo
      obtain ⟨hp, hq⟩ := hq
      refine w_cLp hH (w_rS (As := [.double r15]) (rest := [.long r14]) hX hK hE hH (c_X5_doubleBits  _ _ hp) q3_132 q3_133 q1_1 q3_134 hd_X5_doubleBits.2 ⟨Nat.le_of_ble_eq_true rfl, Nat.le_of_ble_eq_true rfl⟩ ⟨rfl, rfl⟩ rfl hl.1 rfl (Nat.le_of_ble_eq_true rfl) dX5_digest_84 ⟨Nat.zero_le _, Nat.zero_le _⟩) (fun r16  H locs hpo hH => ?_)
      have hq := hq r16  hpo
      obtain ⟨hp, hq⟩ := hq
      refine w_cLp hH (w_rS (As := [.long r14, .long r16]) (rest := []) hX hK hE hH (c_X5_mix  _ _ _ hp) q2_222 q2_223 q1_1 q2_224 hd_X5_mix.2 ⟨Nat.le_of_ble_eq_true rfl, Nat.le_of_ble_eq_true rfl⟩ ⟨rfl, rfl⟩ rfl hl.1 rfl (Nat.le_of_ble_eq_true rfl) dX5_digest_87 ⟨Nat.zero_le _, Nat.zero_le _⟩) (fun r17  H locs hpo hH => ?_)
      have hq := hq r17  hpo
      refine lv_lstore_n (lv' := [(1, .long r17), (0, .ref (b + 0)), (3, .int v3)]) hx hb dX5_digest_90 rfl hl (by decide) rfl (fun ls hl => ?_)
      refine lv_lload_n hx hb dX5_digest_91 rfl (lv_at hl 0 rfl) ?_
      refine lv_aload_n hx hb dX5_digest_92 rfl (lv_at hl 1 rfl) ?_
      obtain ⟨hp, hq⟩ := hq
      refine w_cFp hH (w_rV (As := []) (rest := [.long r17]) hX hK hE hH (c_X5_meanNotch   _ hp) ck5 sh0 q3_138 q2_126 q2_127 q1_1 q2_128 hd_X5_meanNotch ⟨Nat.le_of_ble_eq_true rfl, Nat.le_of_ble_eq_true rfl⟩ ⟨rfl, rfl⟩ rfl hl.1 rfl (Nat.le_of_ble_eq_true rfl) dX5_digest_93 ⟨Nat.zero_le _, Nat.zero_le _⟩) (fun r18  H locs hpo hH => ?_)
      have hq := hq r18  hpo
      obtain ⟨hp, hq⟩ := hq
      refine w_cIp hH (w_rS (As := [.float r18]) (rest := [.long r17]) hX hK hE hH (c_X5_floatBits  _ _ hp) q3_139 q3_140 q1_1 q3_141 hd_X5_floatBits.2 ⟨Nat.le_of_ble_eq_true rfl, Nat.le_of_ble_eq_true rfl⟩ ⟨rfl, rfl⟩ rfl hl.1 rfl (Nat.le_of_ble_eq_true rfl) dX5_digest_96 ⟨Nat.zero_le _, Nat.zero_le _⟩) (fun r19  H locs hpo hH => ?_)
      have hq := hq r19  hpo
      refine lv_i2l hx hb dX5_digest_99 rfl ?_
      obtain ⟨hp, hq⟩ := hq
      refine w_cLp hH (w_rS (As := [.long r17, .long (r19).toInt64]) (rest := []) hX hK hE hH (c_X5_mix  _ _ _ hp) q2_222 q2_223 q1_1 q2_224 hd_X5_mix.2 ⟨Nat.le_of_ble_eq_true rfl, Nat.le_of_ble_eq_true rfl⟩ ⟨rfl, rfl⟩ rfl hl.1 rfl (Nat.le_of_ble_eq_true rfl) dX5_digest_100 ⟨Nat.zero_le _, Nat.zero_le _⟩) (fun r20  H locs hpo hH => ?_)
      have hq := hq r20  hpo
      refine lv_lstore_n (lv' := [(1, .long r20), (0, .ref (b + 0)), (3, .int v3)]) hx hb dX5_digest_103 rfl hl (by decide) rfl (fun ls hl => ?_)
      refine lv_lload_n hx hb dX5_digest_104 rfl (lv_at hl 0 rfl) ?_
      refine lv_aload_n hx hb dX5_digest_105 rfl (lv_at hl 1 rfl) ?_
      refine w_geti hX hK hH ck5 sh0 2 fi5_2 q1_180 dX5_digest_106 ?_
      refine lv_if_eq (tgt := 116) hx hb dX5_digest_109 (by decide) (fun hc => ?_) (fun hc => ?_)
      · have hq := hq.1 hc
        refine lv_lconst (v := 0) hx hb dX5_digest_116 (by decide) ?_
        exact s_X5_digest_117  C0  (0 : Int64) r20 _ _ _ _ hq hH (lv_sub hl [1] rfl)
      · have hq := hq.2 hc
        refine lv_lconst (v := 1) hx hb dX5_digest_112 (by decide) ?_
        refine lv_goto (tgt := 117) hx hb dX5_digest_113 (by decide) ?_
        exact s_X5_digest_117  C0  (1 : Int64) r20 _ _ _ _ hq hH (lv_sub hl [1] rfl)
    · have hq := hq.2 hc
      refine lv_lload_n hx hb dX5_digest_12 rfl (lv_at hl 1 rfl) ?_
      refine lv_aload_n hx hb dX5_digest_13 rfl (lv_at hl 0 rfl) ?_
      refine lv_iload_n hx hb dX5_digest_14 rfl (lv_at hl 2 rfl) ?_
      obtain ⟨hp, hq⟩ := hq
      refine w_cIp hH (w_rV (As := [.int v3]) (rest := [.long v1]) hX hK hE hH (c_X5_count  _ _ hp) ck5 sh0 q2_135 q2_136 q2_137 q1_1 q2_138 hd_X5_count ⟨Nat.le_of_ble_eq_true rfl, Nat.le_of_ble_eq_true rfl⟩ ⟨rfl, rfl⟩ rfl hl.1 rfl (Nat.le_of_ble_eq_true rfl) dX5_digest_15 ⟨Nat.zero_le _, Nat.zero_le _⟩) (fun r21  H locs hpo hH => ?_)
      have hq := hq r21  hpo
      refine lv_i2l hx hb dX5_digest_18 rfl ?_
      obtain ⟨hp, hq⟩ := hq
      refine w_cLp hH (w_rS (As := [.long v1, .long (r21).toInt64]) (rest := []) hX hK hE hH (c_X5_mix  _ _ _ hp) q2_222 q2_223 q1_1 q2_224 hd_X5_mix.2 ⟨Nat.le_of_ble_eq_true rfl, Nat.le_of_ble_eq_true rfl⟩ ⟨rfl, rfl⟩ rfl hl.1 rfl (Nat.le_of_ble_eq_true rfl) dX5_digest_19 ⟨Nat.zero_le _, Nat.zero_le _⟩) (fun r22  H locs hpo hH => ?_)
      have hq := hq r22  hpo
      refine lv_lstore_n (lv' := [(1, .long r22), (0, .ref (b + 0)), (3, .int v3)]) hx hb dX5_digest_22 rfl hl (by decide) rfl (fun ls hl => ?_)
      refine lv_iinc (v := (v3 + (1 : Int32))) (lv' := [(3, .int (v3 + (1 : Int32))), (1, .long r22), (0, .ref (b + 0))]) hx hb dX5_digest_23 hl (k := 2) rfl rfl (by decide) rfl (fun ls hl => ?_)
      refine lv_goto (tgt := 6) hx hb dX5_digest_26 (by decide) ?_
      exact hK6 r22 (v3 + (1 : Int32)) _ _ _ _ hq hH (lv_sub hl [2, 1, 0] rfl)
set_option maxRecDepth 100000 in
set_option maxHeartbeats 4000000 in
theorem c_X5_digest {l : Launch} {D : va_G} {cs : wC4} {ad : Nat → Nat} {b : Nat} {G : wG}  (I : wI) (hp : pre_X5_digest  I) : Met l yX5_digest (ws_ yX5_digest cX5_digest 4 (some .long)) rm_X5_digest (va_Pc [.ref (b + 0)] (wPr D cs ad b G I)) (va_Ql (fun r I' => post_X5_digest  I r I') (wPo D cs b G) (fun q => b ≤ q)) 0 0 (fun q => b ≤ q) := by
  have hq := vc_X5_digest  I hp
  refine w_met (by decide) (Nat.le_of_ble_eq_true rfl) ?_
  intro p e s m below meth c hX hr hlk hK hE hH ls hl
  have C0 : wCx p m c s _ meth cX5_digest 4 RX5 (some .long) D cs ad b := ⟨hX, hr, hlk, hK, hE⟩
  have hX : CallFix p m c cX5_digest 4 s _ lw_all RX5 := hX
  have hx := hX.1
  have hb := hX.2.1
  have hown := hX.2.2.2.1
  have hts := hX.2.2.2.2
  have hl : lv_has ls 4 [(0, .ref (b + 0))] := hl
  unfold v_X5_digest at hq
  refine lv_ldc2 hx hb hown (hts _ q2_134) dX5_digest_0 ?_
  refine lv_lstore_n (lv' := [(1, .long (3769 : Int64)), (0, .ref (b + 0))]) hx hb dX5_digest_3 rfl hl (by decide) rfl (fun ls hl => ?_)
  refine lv_iconst (v := 0) hx hb dX5_digest_4 (by decide) ?_
  refine lv_istore_n (lv' := [(3, .int (0 : Int32)), (1, .long (3769 : Int64)), (0, .ref (b + 0))]) hx hb dX5_digest_5 rfl hl (by decide) rfl (fun ls hl => ?_)
  obtain ⟨f, hq⟩ := hq
  exact s_X5_digest_6  C0  f (3769 : Int64) (0 : Int32) _ _ _ _ hq hH (lv_sub hl [2, 1, 0] rfl)
abbrev rm_X5_digestx : Room := { frames := 11, cells := 1, slots := 6, locals := 190 }

set_option maxRecDepth 100000 in
set_option maxHeartbeats 4000000 in
theorem s_X5_digestx_117 {X : String → wI → Prop} (hst : l.stackTraces = false) (hEx : ∀ x ∈ c.exceptionTable.toList, False) (C0 : wCx p m c s args meth cX5_digest 4 RX5 (some .long) D cs ad b) : ∀ (t0 : Int64) (t1 : Int64) (I : wI) (H : Heap) (locs : List Loc) (ls : Array Slot), v_X5_digestx_117 X t0 t1 I → wH D cs b G I s H locs → lv_has ls 4 [(0, .ref (b + 0))] → W p l e rm_X5_digestx s m args below meth c H locs 0 0 (vx_MQ below (va_Ql (fun (_ : Int64) (_ : wI) => False) (wPo D cs b G) (fun q => b ≤ q)) (wXC D cs b G X) args s 1 6 (fun q => b ≤ q)) (F0 m 117 ls [.long t0, .long t1]) := by
  obtain ⟨hX, hr, hlk, hK, hE⟩ := id C0
  have hx := hX.1
  have hb := hX.2.1
  have hown := hX.2.2.2.1
  have hts := hX.2.2.2.2
  intro t0 t1 I H locs ls hq hH hl
  unfold v_X5_digestx_117 at hq
  obtain ⟨hp, hq⟩ := hq
  refine w_cLp hH (w_rS (As := [.long t1, .long t0]) (rest := []) hX hK hE hH (c_X5_mix  _ _ _ hp) q2_222 q2_223 q1_1 q2_224 hd_X5_mix.2 ⟨Nat.le_of_ble_eq_true rfl, Nat.le_of_ble_eq_true rfl⟩ ⟨rfl, rfl⟩ rfl hl.1 rfl (Nat.le_of_ble_eq_true rfl) dX5_digest_117 ⟨Nat.zero_le _, Nat.zero_le _⟩) (fun r1  H locs hpo hH => ?_)
  have hq := hq r1  hpo
  refine lv_lstore_n (lv' := [(1, .long r1), (0, .ref (b + 0))]) hx hb dX5_digest_120 rfl hl (by decide) rfl (fun ls hl => ?_)
  refine lv_aload_n hx hb dX5_digest_121 rfl (lv_at hl 1 rfl) ?_
  refine lv_lload_n hx hb dX5_digest_122 rfl (lv_at hl 0 rfl) ?_
  obtain ⟨hp, hq⟩ := hq
  refine w_cLp hH (w_rV (As := [.long r1]) (rest := []) hX hK hE hH (c_X5_mixBuffer  _ _ hp) ck5 sh0 q3_143 q3_145 qs25 q1_1 q3_146 hd_X5_mixBuffer ⟨Nat.le_of_ble_eq_true rfl, Nat.le_of_ble_eq_true rfl⟩ ⟨rfl, rfl⟩ rfl hl.1 rfl (Nat.le_of_ble_eq_true rfl) dX5_digest_123 ⟨Nat.zero_le _, Nat.zero_le _⟩) (fun r2  H locs hpo hH => ?_)
  have hq := hq r2  hpo
  exact hq.elim
set_option maxRecDepth 100000 in
set_option maxHeartbeats 4000000 in
theorem s_X5_digestx_6 {X : String → wI → Prop} (hst : l.stackTraces = false) (hEx : ∀ x ∈ c.exceptionTable.toList, False) (C0 : wCx p m c s args meth cX5_digest 4 RX5 (some .long) D cs ad b) : ∀ (f : Nat) (v1 : Int64) (v3 : Int32) (I : wI) (H : Heap) (locs : List Loc) (ls : Array Slot), v_X5_digestx_6 X f v1 v3 I → wH D cs b G I s H locs → lv_has ls 4 [(0, .ref (b + 0)), (1, .long v1), (3, .int v3)] → W p l e rm_X5_digestx s m args below meth c H locs 0 0 (vx_MQ below (va_Ql (fun (_ : Int64) (_ : wI) => False) (wPo D cs b G) (fun q => b ≤ q)) (wXC D cs b G X) args s 1 6 (fun q => b ≤ q)) (F0 m 6 ls []) := by
  obtain ⟨hX, hr, hlk, hK, hE⟩ := id C0
  have hx := hX.1
  have hb := hX.2.1
  have hown := hX.2.2.2.1
  have hts := hX.2.2.2.2
  intro f
  induction f with
  | zero =>
    intro v1 v3 I H locs ls hq
    exact hq.elim
  | succ f hK6 =>
    intro v1 v3 I H locs ls hq hH hl
    have hq : g_X5_digestx_6 X (v_X5_digestx_6 X f) v1 v3 I := hq
    unfold g_X5_digestx_6 at hq
    refine lv_iload_n hx hb dX5_digest_6 rfl (lv_at hl 2 rfl) ?_
    refine lv_bipush (v := 9) hx hb dX5_digest_7 (by decide) ?_
    refine lv_icmp_gt (tgt := 29) hx hb dX5_digest_9 (by decide) (fun hc => ?_) (fun hc => ?_)
    · have hq := hq.1 hc
      refine lv_aload_n hx hb dX5_digest_29 rfl (lv_at hl 0 rfl) ?_
      refine lv_lload_n hx hb dX5_digest_30 rfl (lv_at hl 1 rfl) ?_
      by_cases hok : ok_X5_mixPositions v1 I
      · have hq := hq.1 hok
        obtain ⟨hp, hq⟩ := hq
        refine w_cLp hH (w_rV (As := [.long v1]) (rest := []) hX hK hE hH (c_X5_mixPositions  _ _ hp) ck5 sh0 q2_226 q2_228 qs13 q1_1 q2_229 hd_X5_mixPositions ⟨Nat.le_of_ble_eq_true rfl, Nat.le_of_ble_eq_true rfl⟩ ⟨rfl, rfl⟩ rfl hl.1 rfl (Nat.le_of_ble_eq_true rfl) dX5_digest_31 ⟨Nat.zero_le _, Nat.zero_le _⟩) (fun r2  H locs hpo hH => ?_)
        have hq := hq r2  hpo
        refine lv_lstore_n (lv' := [(1, .long r2), (0, .ref (b + 0)), (3, .int v3)]) hx hb dX5_digest_34 rfl hl (by decide) rfl (fun ls hl => ?_)
        refine lv_aload_n hx hb dX5_digest_35 rfl (lv_at hl 1 rfl) ?_
        refine lv_lload_n hx hb dX5_digest_36 rfl (lv_at hl 0 rfl) ?_
        by_cases hok : ok_X5_mixKeys r2 I
        · have hq := hq.1 hok
          obtain ⟨hp, hq⟩ := hq
          refine w_cL hH (w_rV (As := [.long r2]) (rest := []) hX hK hE hH (c_X5_mixKeys  _ _ hp) ck5 sh0 q3_32 q3_34 qs14 q1_1 q3_35 hd_X5_mixKeys ⟨Nat.le_of_ble_eq_true rfl, Nat.le_of_ble_eq_true rfl⟩ ⟨rfl, rfl⟩ rfl hl.1 rfl (Nat.le_of_ble_eq_true rfl) dX5_digest_37 ⟨Nat.zero_le _, Nat.zero_le _⟩) (fun r5 I6 H locs hpo hH => ?_)
          have hq := hq r5 I6 hpo
          refine lv_lstore_n (lv' := [(1, .long r5), (0, .ref (b + 0)), (3, .int v3)]) hx hb dX5_digest_40 rfl hl (by decide) rfl (fun ls hl => ?_)
          refine lv_aload_n hx hb dX5_digest_41 rfl (lv_at hl 1 rfl) ?_
          refine lv_lload_n hx hb dX5_digest_42 rfl (lv_at hl 0 rfl) ?_
          by_cases hok : ok_X5_mixPairs r5 I6
          · have hq := hq.1 hok
            obtain ⟨hp, hq⟩ := hq
            refine w_cL hH (w_rV (As := [.long r5]) (rest := []) hX hK hE hH (c_X5_mixPairs  _ _ hp) ck5 sh0 q3_81 q3_83 qs18 q1_1 q3_84 hd_X5_mixPairs ⟨Nat.le_of_ble_eq_true rfl, Nat.le_of_ble_eq_true rfl⟩ ⟨rfl, rfl⟩ rfl hl.1 rfl (Nat.le_of_ble_eq_true rfl) dX5_digest_43 ⟨Nat.zero_le _, Nat.zero_le _⟩) (fun r9 I10 H locs hpo hH => ?_)
            have hq := hq r9 I10 hpo
            refine lv_lstore_n (lv' := [(1, .long r9), (0, .ref (b + 0)), (3, .int v3)]) hx hb dX5_digest_46 rfl hl (by decide) rfl (fun ls hl => ?_)
            refine lv_lload_n hx hb dX5_digest_47 rfl (lv_at hl 0 rfl) ?_
            refine lv_aload_n hx hb dX5_digest_48 rfl (lv_at hl 1 rfl) ?_
            refine lv_iconst (v := 0) hx hb dX5_digest_49 (by decide) ?_
            by_cases hok : ok_X5_openIn (0 : Int32) I10
            · have hq := hq.1 hok
              obtain ⟨hp, hq⟩ := hq
              refine w_cI hH (w_rV (As := [.int (0 : Int32)]) (rest := [.long r9]) hX hK hE hH (c_X5_openIn  _ _ hp) ck5 sh0 q3_89 q3_90 q3_91 q1_1 q3_92 hd_X5_openIn ⟨Nat.le_of_ble_eq_true rfl, Nat.le_of_ble_eq_true rfl⟩ ⟨rfl, rfl⟩ rfl hl.1 rfl (Nat.le_of_ble_eq_true rfl) dX5_digest_50 ⟨Nat.zero_le _, Nat.zero_le _⟩) (fun r13 I14 H locs hpo hH => ?_)
              have hq := hq r13 I14 hpo
              refine lv_i2l hx hb dX5_digest_53 rfl ?_
              obtain ⟨hp, hq⟩ := hq
              refine w_cLp hH (w_rS (As := [.long r9, .long (r13).toInt64]) (rest := []) hX hK hE hH (c_X5_mix  _ _ _ hp) q2_222 q2_223 q1_1 q2_224 hd_X5_mix.2 ⟨Nat.le_of_ble_eq_true rfl, Nat.le_of_ble_eq_true rfl⟩ ⟨rfl, rfl⟩ rfl hl.1 rfl (Nat.le_of_ble_eq_true rfl) dX5_digest_54 ⟨Nat.zero_le _, Nat.zero_le _⟩) (fun r15  H locs hpo hH => ?_)
              have hq := hq r15  hpo
              refine lv_lstore_n (lv' := [(1, .long r15), (0, .ref (b + 0)), (3, .int v3)]) hx hb dX5_digest_57 rfl hl (by decide) rfl (fun ls hl => ?_)
              refine lv_lload_n hx hb dX5_digest_58 rfl (lv_at hl 0 rfl) ?_
              refine lv_aload_n hx hb dX5_digest_59 rfl (lv_at hl 1 rfl) ?_
              refine lv_iconst (v := 1) hx hb dX5_digest_60 (by decide) ?_
              by_cases hok : ok_X5_openIn (1 : Int32) I14
              · have hq := hq.1 hok
                obtain ⟨hp, hq⟩ := hq
                refine w_cI hH (w_rV (As := [.int (1 : Int32)]) (rest := [.long r15]) hX hK hE hH (c_X5_openIn  _ _ hp) ck5 sh0 q3_89 q3_90 q3_91 q1_1 q3_92 hd_X5_openIn ⟨Nat.le_of_ble_eq_true rfl, Nat.le_of_ble_eq_true rfl⟩ ⟨rfl, rfl⟩ rfl hl.1 rfl (Nat.le_of_ble_eq_true rfl) dX5_digest_61 ⟨Nat.zero_le _, Nat.zero_le _⟩) (fun r18 I19 H locs hpo hH => ?_)
                have hq := hq r18 I19 hpo
                refine lv_i2l hx hb dX5_digest_64 rfl ?_
                obtain ⟨hp, hq⟩ := hq
                refine w_cLp hH (w_rS (As := [.long r15, .long (r18).toInt64]) (rest := []) hX hK hE hH (c_X5_mix  _ _ _ hp) q2_222 q2_223 q1_1 q2_224 hd_X5_mix.2 ⟨Nat.le_of_ble_eq_true rfl, Nat.le_of_ble_eq_true rfl⟩ ⟨rfl, rfl⟩ rfl hl.1 rfl (Nat.le_of_ble_eq_true rfl) dX5_digest_65 ⟨Nat.zero_le _, Nat.zero_le _⟩) (fun r20  H locs hpo hH => ?_)
                have hq := hq r20  hpo
                refine lv_lstore_n (lv' := [(1, .long r20), (0, .ref (b + 0)), (3, .int v3)]) hx hb dX5_digest_68 rfl hl (by decide) rfl (fun ls hl => ?_)
                refine lv_lload_n hx hb dX5_digest_69 rfl (lv_at hl 0 rfl) ?_
                refine lv_aload_n hx hb dX5_digest_70 rfl (lv_at hl 1 rfl) ?_
                obtain ⟨hp, hq⟩ := hq
                refine w_cI hH (w_rV (As := []) (rest := [.long r20]) hX hK hE hH (c_X5_closest   _ hp) ck5 sh0 q3_130 q2_87 q2_88 q1_1 q2_89 hd_X5_closest ⟨Nat.le_of_ble_eq_true rfl, Nat.le_of_ble_eq_true rfl⟩ ⟨rfl, rfl⟩ rfl hl.1 rfl (Nat.le_of_ble_eq_true rfl) dX5_digest_71 ⟨Nat.zero_le _, Nat.zero_le _⟩) (fun r21 I22 H locs hpo hH => ?_)
                have hq := hq r21 I22 hpo
                refine lv_i2l hx hb dX5_digest_74 rfl ?_
                obtain ⟨hp, hq⟩ := hq
                refine w_cLp hH (w_rS (As := [.long r20, .long (r21).toInt64]) (rest := []) hX hK hE hH (c_X5_mix  _ _ _ hp) q2_222 q2_223 q1_1 q2_224 hd_X5_mix.2 ⟨Nat.le_of_ble_eq_true rfl, Nat.le_of_ble_eq_true rfl⟩ ⟨rfl, rfl⟩ rfl hl.1 rfl (Nat.le_of_ble_eq_true rfl) dX5_digest_75 ⟨Nat.zero_le _, Nat.zero_le _⟩) (fun r23  H locs hpo hH => ?_)
                have hq := hq r23  hpo
                refine lv_lstore_n (lv' := [(1, .long r23), (0, .ref (b + 0)), (3, .int v3)]) hx hb dX5_digest_78 rfl hl (by decide) rfl (fun ls hl => ?_)
                refine lv_lload_n hx hb dX5_digest_79 rfl (lv_at hl 0 rfl) ?_
                refine lv_aload_n hx hb dX5_digest_80 rfl (lv_at hl 1 rfl) ?_
                obtain ⟨hp, hq⟩ := hq
                refine w_cDp hH (w_rV (As := []) (rest := [.long r23]) hX hK hE hH (c_X5_openShare   _ hp) ck5 sh0 q3_131 q2_113 q2_114 q1_1 q2_115 hd_X5_openShare ⟨Nat.le_of_ble_eq_true rfl, Nat.le_of_ble_eq_true rfl⟩ ⟨rfl, rfl⟩ rfl hl.1 rfl (Nat.le_of_ble_eq_true rfl) dX5_digest_81 ⟨Nat.zero_le _, Nat.zero_le _⟩) (fun r24  H locs hpo hH => ?_)
                have hq := hq r24  hpo
                obtain ⟨hp, hq⟩ := hq
                refine w_cLp hH (w_rS (As := [.double r24]) (rest := [.long r23]) hX hK hE hH (c_X5_doubleBits  _ _ hp) q3_132 q3_133 q1_1 q3_134 hd_X5_doubleBits.2 ⟨Nat.le_of_ble_eq_true rfl, Nat.le_of_ble_eq_true rfl⟩ ⟨rfl, rfl⟩ rfl hl.1 rfl (Nat.le_of_ble_eq_true rfl) dX5_digest_84 ⟨Nat.zero_le _, Nat.zero_le _⟩) (fun r25  H locs hpo hH => ?_)
                have hq := hq r25  hpo
                obtain ⟨hp, hq⟩ := hq
                refine w_cLp hH (w_rS (As := [.long r23, .long r25]) (rest := []) hX hK hE hH (c_X5_mix  _ _ _ hp) q2_222 q2_223 q1_1 q2_224 hd_X5_mix.2 ⟨Nat.le_of_ble_eq_true rfl, Nat.le_of_ble_eq_true rfl⟩ ⟨rfl, rfl⟩ rfl hl.1 rfl (Nat.le_of_ble_eq_true rfl) dX5_digest_87 ⟨Nat.zero_le _, Nat.zero_le _⟩) (fun r26  H locs hpo hH => ?_)
                have hq := hq r26  hpo
                refine lv_lstore_n (lv' := [(1, .long r26), (0, .ref (b + 0)), (3, .int v3)]) hx hb dX5_digest_90 rfl hl (by decide) rfl (fun ls hl => ?_)
                refine lv_lload_n hx hb dX5_digest_91 rfl (lv_at hl 0 rfl) ?_
                refine lv_aload_n hx hb dX5_digest_92 rfl (lv_at hl 1 rfl) ?_
                obtain ⟨hp, hq⟩ := hq
                refine w_cFp hH (w_rV (As := []) (rest := [.long r26]) hX hK hE hH (c_X5_meanNotch   _ hp) ck5 sh0 q3_138 q2_126 q2_127 q1_1 q2_128 hd_X5_meanNotch ⟨Nat.le_of_ble_eq_true rfl, Nat.le_of_ble_eq_true rfl⟩ ⟨rfl, rfl⟩ rfl hl.1 rfl (Nat.le_of_ble_eq_true rfl) dX5_digest_93 ⟨Nat.zero_le _, Nat.zero_le _⟩) (fun r27  H locs hpo hH => ?_)
                have hq := hq r27  hpo
                obtain ⟨hp, hq⟩ := hq
                refine w_cIp hH (w_rS (As := [.float r27]) (rest := [.long r26]) hX hK hE hH (c_X5_floatBits  _ _ hp) q3_139 q3_140 q1_1 q3_141 hd_X5_floatBits.2 ⟨Nat.le_of_ble_eq_true rfl, Nat.le_of_ble_eq_true rfl⟩ ⟨rfl, rfl⟩ rfl hl.1 rfl (Nat.le_of_ble_eq_true rfl) dX5_digest_96 ⟨Nat.zero_le _, Nat.zero_le _⟩) (fun r28  H locs hpo hH => ?_)
                have hq := hq r28  hpo
                refine lv_i2l hx hb dX5_digest_99 rfl ?_
                obtain ⟨hp, hq⟩ := hq
                refine w_cLp hH (w_rS (As := [.long r26, .long (r28).toInt64]) (rest := []) hX hK hE hH (c_X5_mix  _ _ _ hp) q2_222 q2_223 q1_1 q2_224 hd_X5_mix.2 ⟨Nat.le_of_ble_eq_true rfl, Nat.le_of_ble_eq_true rfl⟩ ⟨rfl, rfl⟩ rfl hl.1 rfl (Nat.le_of_ble_eq_true rfl) dX5_digest_100 ⟨Nat.zero_le _, Nat.zero_le _⟩) (fun r29  H locs hpo hH => ?_)
                have hq := hq r29  hpo
                refine lv_lstore_n (lv' := [(1, .long r29), (0, .ref (b + 0)), (3, .int v3)]) hx hb dX5_digest_103 rfl hl (by decide) rfl (fun ls hl => ?_)
                refine lv_lload_n hx hb dX5_digest_104 rfl (lv_at hl 0 rfl) ?_
                refine lv_aload_n hx hb dX5_digest_105 rfl (lv_at hl 1 rfl) ?_
                refine w_geti hX hK hH ck5 sh0 2 fi5_2 q1_180 dX5_digest_106 ?_
                refine lv_if_eq (tgt := 116) hx hb dX5_digest_109 (by decide) (fun hc => ?_) (fun hc => ?_)
                · have hq := hq.1 hc
                  refine lv_lconst (v := 0) hx hb dX5_digest_116 (by decide) ?_
                  exact s_X5_digestx_117 hst hEx C0  (0 : Int64) r29 _ _ _ _ hq hH (lv_sub hl [1] rfl)
                · have hq := hq.2 hc
                  refine lv_lconst (v := 1) hx hb dX5_digest_112 (by decide) ?_
                  refine lv_goto (tgt := 117) hx hb dX5_digest_113 (by decide) ?_
                  exact s_X5_digestx_117 hst hEx C0  (1 : Int64) r29 _ _ _ _ hq hH (lv_sub hl [1] rfl)
              · have hq := hq.2 hok
                obtain ⟨hp, hq⟩ := hq
                exact w_xI hEx hlk hH (w_xrV (As := [.int (1 : Int32)]) (rest := [.long r15]) hX hK hE hH (c_X5_openInx hst  _ _ hp) ck5 sh0 q3_89 q3_90 q3_91 q1_1 q3_92 hd_X5_openIn ⟨Nat.le_of_ble_eq_true rfl, Nat.le_of_ble_eq_true rfl⟩ ⟨rfl, rfl⟩ rfl hl.1 rfl (Nat.le_of_ble_eq_true rfl) dX5_digest_61 ⟨Nat.le_of_ble_eq_true rfl, Nat.le_of_ble_eq_true rfl⟩) (fun E u h => hq E u h)
            · have hq := hq.2 hok
              obtain ⟨hp, hq⟩ := hq
              exact w_xI hEx hlk hH (w_xrV (As := [.int (0 : Int32)]) (rest := [.long r9]) hX hK hE hH (c_X5_openInx hst  _ _ hp) ck5 sh0 q3_89 q3_90 q3_91 q1_1 q3_92 hd_X5_openIn ⟨Nat.le_of_ble_eq_true rfl, Nat.le_of_ble_eq_true rfl⟩ ⟨rfl, rfl⟩ rfl hl.1 rfl (Nat.le_of_ble_eq_true rfl) dX5_digest_50 ⟨Nat.le_of_ble_eq_true rfl, Nat.le_of_ble_eq_true rfl⟩) (fun E u h => hq E u h)
          · have hq := hq.2 hok
            obtain ⟨hp, hq⟩ := hq
            exact w_xL hEx hlk hH (w_xrV (As := [.long r5]) (rest := []) hX hK hE hH (c_X5_mixPairsx hst  _ _ hp) ck5 sh0 q3_81 q3_83 qs18 q1_1 q3_84 hd_X5_mixPairs ⟨Nat.le_of_ble_eq_true rfl, Nat.le_of_ble_eq_true rfl⟩ ⟨rfl, rfl⟩ rfl hl.1 rfl (Nat.le_of_ble_eq_true rfl) dX5_digest_43 ⟨Nat.le_of_ble_eq_true rfl, Nat.le_of_ble_eq_true rfl⟩) (fun E u h => hq E u h)
        · have hq := hq.2 hok
          obtain ⟨hp, hq⟩ := hq
          exact w_xL hEx hlk hH (w_xrV (As := [.long r2]) (rest := []) hX hK hE hH (c_X5_mixKeysx hst  _ _ hp) ck5 sh0 q3_32 q3_34 qs14 q1_1 q3_35 hd_X5_mixKeys ⟨Nat.le_of_ble_eq_true rfl, Nat.le_of_ble_eq_true rfl⟩ ⟨rfl, rfl⟩ rfl hl.1 rfl (Nat.le_of_ble_eq_true rfl) dX5_digest_37 ⟨Nat.le_of_ble_eq_true rfl, Nat.le_of_ble_eq_true rfl⟩) (fun E u h => hq E u h)
      · have hq := hq.2 hok
        obtain ⟨hp, hq⟩ := hq
        exact w_xL hEx hlk hH (w_xrV (As := [.long v1]) (rest := []) hX hK hE hH (c_X5_mixPositionsx hst  _ _ hp) ck5 sh0 q2_226 q2_228 qs13 q1_1 q2_229 hd_X5_mixPositions ⟨Nat.le_of_ble_eq_true rfl, Nat.le_of_ble_eq_true rfl⟩ ⟨rfl, rfl⟩ rfl hl.1 rfl (Nat.le_of_ble_eq_true rfl) dX5_digest_31 ⟨Nat.le_of_ble_eq_true rfl, Nat.le_of_ble_eq_true rfl⟩) (fun E u h => by obtain ⟨h1, h2⟩ := h; subst h1; exact hq E h2)
    · have hq := hq.2 hc
      refine lv_lload_n hx hb dX5_digest_12 rfl (lv_at hl 1 rfl) ?_
      refine lv_aload_n hx hb dX5_digest_13 rfl (lv_at hl 0 rfl) ?_
      refine lv_iload_n hx hb dX5_digest_14 rfl (lv_at hl 2 rfl) ?_
      by_cases hok : ok_X5_count v3 I
      · have hq := hq.1 hok
        obtain ⟨hp, hq⟩ := hq
        refine w_cIp hH (w_rV (As := [.int v3]) (rest := [.long v1]) hX hK hE hH (c_X5_count  _ _ hp) ck5 sh0 q2_135 q2_136 q2_137 q1_1 q2_138 hd_X5_count ⟨Nat.le_of_ble_eq_true rfl, Nat.le_of_ble_eq_true rfl⟩ ⟨rfl, rfl⟩ rfl hl.1 rfl (Nat.le_of_ble_eq_true rfl) dX5_digest_15 ⟨Nat.zero_le _, Nat.zero_le _⟩) (fun r31  H locs hpo hH => ?_)
        have hq := hq r31  hpo
        refine lv_i2l hx hb dX5_digest_18 rfl ?_
        obtain ⟨hp, hq⟩ := hq
        refine w_cLp hH (w_rS (As := [.long v1, .long (r31).toInt64]) (rest := []) hX hK hE hH (c_X5_mix  _ _ _ hp) q2_222 q2_223 q1_1 q2_224 hd_X5_mix.2 ⟨Nat.le_of_ble_eq_true rfl, Nat.le_of_ble_eq_true rfl⟩ ⟨rfl, rfl⟩ rfl hl.1 rfl (Nat.le_of_ble_eq_true rfl) dX5_digest_19 ⟨Nat.zero_le _, Nat.zero_le _⟩) (fun r32  H locs hpo hH => ?_)
        have hq := hq r32  hpo
        refine lv_lstore_n (lv' := [(1, .long r32), (0, .ref (b + 0)), (3, .int v3)]) hx hb dX5_digest_22 rfl hl (by decide) rfl (fun ls hl => ?_)
        refine lv_iinc (v := (v3 + (1 : Int32))) (lv' := [(3, .int (v3 + (1 : Int32))), (1, .long r32), (0, .ref (b + 0))]) hx hb dX5_digest_23 hl (k := 2) rfl rfl (by decide) rfl (fun ls hl => ?_)
        refine lv_goto (tgt := 6) hx hb dX5_digest_26 (by decide) ?_
        exact hK6 r32 (v3 + (1 : Int32)) _ _ _ _ hq hH (lv_sub hl [2, 1, 0] rfl)
      · have hq := hq.2 hok
        obtain ⟨hp, hq⟩ := hq
        exact w_xI hEx hlk hH (w_xrV (As := [.int v3]) (rest := [.long v1]) hX hK hE hH (c_X5_countx hst  _ _ hp) ck5 sh0 q2_135 q2_136 q2_137 q1_1 q2_138 hd_X5_count ⟨Nat.le_of_ble_eq_true rfl, Nat.le_of_ble_eq_true rfl⟩ ⟨rfl, rfl⟩ rfl hl.1 rfl (Nat.le_of_ble_eq_true rfl) dX5_digest_15 ⟨Nat.le_of_ble_eq_true rfl, Nat.le_of_ble_eq_true rfl⟩) (fun E u h => by obtain ⟨h1, h2⟩ := h; subst h1; exact hq E h2)
set_option maxRecDepth 100000 in
set_option maxHeartbeats 4000000 in
theorem c_X5_digestx {l : Launch} {D : va_G} {cs : wC4} {ad : Nat → Nat} {b : Nat} {G : wG} (hst : l.stackTraces = false)  (I : wI) (hp : pre_X5_digestx  I) : vx_Met l yX5_digest (ws_ yX5_digest cX5_digest 4 (some .long)) rm_X5_digestx (va_Pc [.ref (b + 0)] (wPr D cs ad b G I)) (va_Ql (fun (_ : Int64) (_ : wI) => False) (wPo D cs b G) (fun q => b ≤ q)) (wXC D cs b G (exc_X5_digest  I)) 1 6 (fun q => b ≤ q) := by
  have hq := vc_X5_digestx  I hp
  refine w_metx (by decide) (Nat.le_of_ble_eq_true rfl) ?_
  intro p e s m below meth c hX hr hlk hEx hK hE hH ls hl
  have C0 : wCx p m c s _ meth cX5_digest 4 RX5 (some .long) D cs ad b := ⟨hX, hr, hlk, hK, hE⟩
  have hX : CallFix p m c cX5_digest 4 s _ lw_all RX5 := hX
  have hx := hX.1
  have hb := hX.2.1
  have hown := hX.2.2.2.1
  have hts := hX.2.2.2.2
  have hl : lv_has ls 4 [(0, .ref (b + 0))] := hl
  unfold v_X5_digestx at hq
  refine lv_ldc2 hx hb hown (hts _ q2_134) dX5_digest_0 ?_
  refine lv_lstore_n (lv' := [(1, .long (3769 : Int64)), (0, .ref (b + 0))]) hx hb dX5_digest_3 rfl hl (by decide) rfl (fun ls hl => ?_)
  refine lv_iconst (v := 0) hx hb dX5_digest_4 (by decide) ?_
  refine lv_istore_n (lv' := [(3, .int (0 : Int32)), (1, .long (3769 : Int64)), (0, .ref (b + 0))]) hx hb dX5_digest_5 rfl hl (by decide) rfl (fun ls hl => ?_)
  obtain ⟨f, hq⟩ := hq
  exact s_X5_digestx_6 hst hEx C0  f (3769 : Int64) (0 : Int32) _ _ _ _ hq hH (lv_sub hl [2, 1, 0] rfl)
abbrev rm_X6_thrown : Room := { frames := 0, cells := 0, slots := 0, locals := 0 }
theorem hd_X6_thrown : yX6_thrown.cls = RX6 ∧ yX6_thrown.cls ≠ "java/lang/invoke/MethodHandle" ∧ yX6_thrown.cls ≠ "java/lang/invoke/VarHandle" ∧ (parseMethodDescriptor yX6_thrown.desc).map (fun d => d.parameters.length) = some 0 := by decide +kernel
set_option maxRecDepth 100000 in
set_option maxHeartbeats 4000000 in
theorem c_X6_thrown {l : Launch} {D : va_G} {cs : wC4} {ad : Nat → Nat} {b : Nat} {G : wG}  (I : wI) (hp : pre_X6_thrown  I) : Met l yX6_thrown (ws_ yX6_thrown cX6_thrown 1 (some .int)) rm_X6_thrown (va_Pc [.ref (b + 111)] (wPr D cs ad b G I)) (va_Qi (fun r I' => I' = I ∧ post_X6_thrown  I r) (wPo D cs b G) (fun q => b ≤ q)) 0 0 (fun q => b ≤ q) := by
  have hq := vc_X6_thrown  I hp
  refine w_met (by decide) (Nat.le_of_ble_eq_true rfl) ?_
  intro p e s m below meth c hX hr hlk hK hE hH ls hl
  have C0 : wCx p m c s _ meth cX6_thrown 1 RX6 (some .int) D cs ad b := ⟨hX, hr, hlk, hK, hE⟩
  have hX : CallFix p m c cX6_thrown 1 s _ lw_all RX6 := hX
  have hx := hX.1
  have hb := hX.2.1
  have hown := hX.2.2.2.1
  have hts := hX.2.2.2.2
  have hl : lv_has ls 1 [(0, .ref (b + 111))] := hl
  unfold v_X6_thrown at hq
  refine lv_aload_n hx hb dX6_thrown_0 rfl (lv_at hl 0 rfl) ?_
  refine w_geti hX hK hH ck6 sh111 0 fi6_0 q4_73 dX6_thrown_1 ?_
  exact w_eI hX hr hlk hH ⟨rfl, hq⟩ dX6_thrown_4
abbrev rm_X6_in : Room := { frames := 0, cells := 0, slots := 0, locals := 0 }
theorem hd_X6_in : yX6_in.cls = RX6 ∧ yX6_in.cls ≠ "java/lang/invoke/MethodHandle" ∧ yX6_in.cls ≠ "java/lang/invoke/VarHandle" ∧ (parseMethodDescriptor yX6_in.desc).map (fun d => d.parameters.length) = some 3 := by decide +kernel
set_option maxRecDepth 100000 in
set_option maxHeartbeats 4000000 in
theorem s_X6_in_15 {x0 : Int32} {x1 : Int32} {x2 : Int32} {I : wI} {Q : Int32 → Prop} (C0 : wCx p m c s args meth cX6_in 3 RX6 (some .boolean) D cs ad b) : ∀ (t0 : Int32) (H : Heap) (locs : List Loc) (ls : Array Slot), v_X6_in_15 x0 x1 x2 I Q t0 → wH D cs b G I s H locs → lv_has ls 3 [] → W p l e rm_X6_in s m args below meth c H locs 0 0 (MQ below (va_Qi (fun r I' => I' = I ∧ Q r) (wPo D cs b G) (fun q => b ≤ q)) args s 0 0 (fun q => b ≤ q)) (F0 m 15 ls [.int t0]) := by
  obtain ⟨hX, hr, hlk, hK, hE⟩ := id C0
  have hx := hX.1
  have hb := hX.2.1
  have hown := hX.2.2.2.1
  have hts := hX.2.2.2.2
  intro t0 H locs ls hq hH hl
  unfold v_X6_in_15 at hq
  obtain ⟨hz, hq⟩ := hq
  exact w_eZ hz hX hr hlk hH ⟨rfl, hq⟩ dX6_in_15
set_option maxRecDepth 100000 in
set_option maxHeartbeats 4000000 in
theorem s_X6_in_14 {x0 : Int32} {x1 : Int32} {x2 : Int32} {I : wI} {Q : Int32 → Prop} (C0 : wCx p m c s args meth cX6_in 3 RX6 (some .boolean) D cs ad b) : ∀  (H : Heap) (locs : List Loc) (ls : Array Slot), v_X6_in_14 x0 x1 x2 I Q  → wH D cs b G I s H locs → lv_has ls 3 [] → W p l e rm_X6_in s m args below meth c H locs 0 0 (MQ below (va_Qi (fun r I' => I' = I ∧ Q r) (wPo D cs b G) (fun q => b ≤ q)) args s 0 0 (fun q => b ≤ q)) (F0 m 14 ls []) := by
  obtain ⟨hX, hr, hlk, hK, hE⟩ := id C0
  have hx := hX.1
  have hb := hX.2.1
  have hown := hX.2.2.2.1
  have hts := hX.2.2.2.2
  intro  H locs ls hq hH hl
  unfold v_X6_in_14 at hq
  refine lv_iconst (v := 0) hx hb dX6_in_14 (by decide) ?_
  exact s_X6_in_15  C0  (0 : Int32) _ _ _ hq hH (lv_sub hl [] rfl)
set_option maxRecDepth 100000 in
set_option maxHeartbeats 4000000 in
theorem c_X6_in {l : Launch} {D : va_G} {cs : wC4} {ad : Nat → Nat} {b : Nat} {G : wG} (x0 : Int32) (x1 : Int32) (x2 : Int32) (I : wI) (hp : pre_X6_in x0 x1 x2 I) : Met l yX6_in (ws_ yX6_in cX6_in 3 (some .boolean)) rm_X6_in (va_Pc [.int x0, .int x1, .int x2] (wPr D cs ad b G I)) (va_Qi (fun r I' => I' = I ∧ post_X6_in x0 x1 x2 I r) (wPo D cs b G) (fun q => b ≤ q)) 0 0 (fun q => b ≤ q) := by
  have hq := vc_X6_in x0 x1 x2 I hp
  refine w_met (by decide) (Nat.le_of_ble_eq_true rfl) ?_
  intro p e s m below meth c hX hr hlk hK hE hH ls hl
  have C0 : wCx p m c s _ meth cX6_in 3 RX6 (some .boolean) D cs ad b := ⟨hX, hr, hlk, hK, hE⟩
  have hX : CallFix p m c cX6_in 3 s _ lw_all RX6 := hX
  have hx := hX.1
  have hb := hX.2.1
  have hown := hX.2.2.2.1
  have hts := hX.2.2.2.2
  have hl : lv_has ls 3 [(0, .int x0), (1, .int x1), (2, .int x2)] := hl
  unfold v_X6_in at hq
  refine lv_iload_n hx hb dX6_in_0 rfl (lv_at hl 0 rfl) ?_
  refine lv_iload_n hx hb dX6_in_1 rfl (lv_at hl 1 rfl) ?_
  refine lv_icmp_lt (tgt := 14) hx hb dX6_in_2 (by decide) (fun hc => ?_) (fun hc => ?_)
  · have hq := hq.1 hc
    exact s_X6_in_14  C0   _ _ _ hq hH (lv_sub hl [] rfl)
  · have hq := hq.2 hc
    refine lv_iload_n hx hb dX6_in_5 rfl (lv_at hl 0 rfl) ?_
    refine lv_iload_n hx hb dX6_in_6 rfl (lv_at hl 2 rfl) ?_
    refine lv_icmp_gt (tgt := 14) hx hb dX6_in_7 (by decide) (fun hc => ?_) (fun hc => ?_)
    · have hq := hq.1 hc
      exact s_X6_in_14  C0   _ _ _ hq hH (lv_sub hl [] rfl)
    · have hq := hq.2 hc
      refine lv_iconst (v := 1) hx hb dX6_in_10 (by decide) ?_
      refine lv_goto (tgt := 15) hx hb dX6_in_11 (by decide) ?_
      exact s_X6_in_15  C0  (1 : Int32) _ _ _ hq hH (lv_sub hl [] rfl)
abbrev rm_X6_isKey : Room := { frames := 1, cells := 0, slots := 0, locals := 22 }
theorem hd_X6_isKey : yX6_isKey.cls = RX6 ∧ yX6_isKey.cls ≠ "java/lang/invoke/MethodHandle" ∧ yX6_isKey.cls ≠ "java/lang/invoke/VarHandle" ∧ (parseMethodDescriptor yX6_isKey.desc).map (fun d => d.parameters.length) = some 1 := by decide +kernel
set_option maxRecDepth 100000 in
set_option maxHeartbeats 4000000 in
theorem c_X6_isKey {l : Launch} {D : va_G} {cs : wC4} {ad : Nat → Nat} {b : Nat} {G : wG} (x0 : Int32) (I : wI) (hp : pre_X6_isKey x0 I) : Met l yX6_isKey (ws_ yX6_isKey cX6_isKey 1 (some .boolean)) rm_X6_isKey (va_Pc [.int x0] (wPr D cs ad b G I)) (va_Qi (fun r I' => I' = I ∧ post_X6_isKey x0 I r) (wPo D cs b G) (fun q => b ≤ q)) 0 0 (fun q => b ≤ q) := by
  have hq := vc_X6_isKey x0 I hp
  refine w_met (by decide) (Nat.le_of_ble_eq_true rfl) ?_
  intro p e s m below meth c hX hr hlk hK hE hH ls hl
  have C0 : wCx p m c s _ meth cX6_isKey 1 RX6 (some .boolean) D cs ad b := ⟨hX, hr, hlk, hK, hE⟩
  have hX : CallFix p m c cX6_isKey 1 s _ lw_all RX6 := hX
  have hx := hX.1
  have hb := hX.2.1
  have hown := hX.2.2.2.1
  have hts := hX.2.2.2.2
  have hl : lv_has ls 1 [(0, .int x0)] := hl
  unfold v_X6_isKey at hq
  refine lv_iload_n hx hb dX6_isKey_0 rfl (lv_at hl 0 rfl) ?_
  refine lv_iconst (v := 0) hx hb dX6_isKey_1 (by decide) ?_
  refine lv_iconst (v := 4) hx hb dX6_isKey_2 (by decide) ?_
  obtain ⟨hp, hq⟩ := hq
  refine w_cIp hH (w_rS (As := [.int x0, .int (0 : Int32), .int (4 : Int32)]) (rest := []) hX hK hE hH (c_X6_in  _ _ _ _ hp) q4_168 q4_169 q1_7 q4_170 hd_X6_in.2 ⟨Nat.le_of_ble_eq_true rfl, Nat.le_of_ble_eq_true rfl⟩ ⟨rfl, rfl⟩ rfl hl.1 rfl (Nat.le_of_ble_eq_true rfl) dX6_isKey_3 ⟨Nat.zero_le _, Nat.zero_le _⟩) (fun r1  H locs hpo hH => ?_)
  have hq := hq r1  hpo
  obtain ⟨hz, hq⟩ := hq
  exact w_eZ hz hX hr hlk hH ⟨rfl, hq⟩ dX6_isKey_6
abbrev rm_X6_isPlace : Room := { frames := 1, cells := 0, slots := 0, locals := 22 }
theorem hd_X6_isPlace : yX6_isPlace.cls = RX6 ∧ yX6_isPlace.cls ≠ "java/lang/invoke/MethodHandle" ∧ yX6_isPlace.cls ≠ "java/lang/invoke/VarHandle" ∧ (parseMethodDescriptor yX6_isPlace.desc).map (fun d => d.parameters.length) = some 1 := by decide +kernel
set_option maxRecDepth 100000 in
set_option maxHeartbeats 4000000 in
theorem c_X6_isPlace {l : Launch} {D : va_G} {cs : wC4} {ad : Nat → Nat} {b : Nat} {G : wG} (x0 : Int32) (I : wI) (hp : pre_X6_isPlace x0 I) : Met l yX6_isPlace (ws_ yX6_isPlace cX6_isPlace 1 (some .boolean)) rm_X6_isPlace (va_Pc [.int x0] (wPr D cs ad b G I)) (va_Qi (fun r I' => I' = I ∧ post_X6_isPlace x0 I r) (wPo D cs b G) (fun q => b ≤ q)) 0 0 (fun q => b ≤ q) := by
  have hq := vc_X6_isPlace x0 I hp
  refine w_met (by decide) (Nat.le_of_ble_eq_true rfl) ?_
  intro p e s m below meth c hX hr hlk hK hE hH ls hl
  have C0 : wCx p m c s _ meth cX6_isPlace 1 RX6 (some .boolean) D cs ad b := ⟨hX, hr, hlk, hK, hE⟩
  have hX : CallFix p m c cX6_isPlace 1 s _ lw_all RX6 := hX
  have hx := hX.1
  have hb := hX.2.1
  have hown := hX.2.2.2.1
  have hts := hX.2.2.2.2
  have hl : lv_has ls 1 [(0, .int x0)] := hl
  unfold v_X6_isPlace at hq
  refine lv_iload_n hx hb dX6_isPlace_0 rfl (lv_at hl 0 rfl) ?_
  refine lv_iconst (v := 0) hx hb dX6_isPlace_1 (by decide) ?_
  refine lv_iconst (v := 5) hx hb dX6_isPlace_2 (by decide) ?_
  obtain ⟨hp, hq⟩ := hq
  refine w_cIp hH (w_rS (As := [.int x0, .int (0 : Int32), .int (5 : Int32)]) (rest := []) hX hK hE hH (c_X6_in  _ _ _ _ hp) q4_168 q4_169 q1_7 q4_170 hd_X6_in.2 ⟨Nat.le_of_ble_eq_true rfl, Nat.le_of_ble_eq_true rfl⟩ ⟨rfl, rfl⟩ rfl hl.1 rfl (Nat.le_of_ble_eq_true rfl) dX6_isPlace_3 ⟨Nat.zero_le _, Nat.zero_le _⟩) (fun r1  H locs hpo hH => ?_)
  have hq := hq r1  hpo
  obtain ⟨hz, hq⟩ := hq
  exact w_eZ hz hX hr hlk hH ⟨rfl, hq⟩ dX6_isPlace_6
abbrev rm_X6_has : Room := { frames := 0, cells := 0, slots := 0, locals := 0 }
theorem hd_X6_has : yX6_has.cls = RX6 ∧ yX6_has.cls ≠ "java/lang/invoke/MethodHandle" ∧ yX6_has.cls ≠ "java/lang/invoke/VarHandle" ∧ (parseMethodDescriptor yX6_has.desc).map (fun d => d.parameters.length) = some 2 := by decide +kernel
set_option maxRecDepth 100000 in
set_option maxHeartbeats 4000000 in
theorem s_X6_has_22 {x1 : Int32} {x2 : Int32} {I : wI} {Q : Int32 → Prop} (C0 : wCx p m c s args meth cX6_has 3 RX6 (some .boolean) D cs ad b) : ∀ (t0 : Int32) (H : Heap) (locs : List Loc) (ls : Array Slot), v_X6_has_22 x1 x2 I Q t0 → wH D cs b G I s H locs → lv_has ls 3 [] → W p l e rm_X6_has s m args below meth c H locs 0 0 (MQ below (va_Qi (fun r I' => I' = I ∧ Q r) (wPo D cs b G) (fun q => b ≤ q)) args s 0 0 (fun q => b ≤ q)) (F0 m 22 ls [.int t0]) := by
  obtain ⟨hX, hr, hlk, hK, hE⟩ := id C0
  have hx := hX.1
  have hb := hX.2.1
  have hown := hX.2.2.2.1
  have hts := hX.2.2.2.2
  intro t0 H locs ls hq hH hl
  unfold v_X6_has_22 at hq
  obtain ⟨hz, hq⟩ := hq
  exact w_eZ hz hX hr hlk hH ⟨rfl, hq⟩ dX6_has_22
set_option maxRecDepth 100000 in
set_option maxHeartbeats 4000000 in
theorem c_X6_has {l : Launch} {D : va_G} {cs : wC4} {ad : Nat → Nat} {b : Nat} {G : wG} (x1 : Int32) (x2 : Int32) (I : wI) (hp : pre_X6_has x1 x2 I) : Met l yX6_has (ws_ yX6_has cX6_has 3 (some .boolean)) rm_X6_has (va_Pc [.ref (b + 111), .int x1, .int x2] (wPr D cs ad b G I)) (va_Qi (fun r I' => I' = I ∧ post_X6_has x1 x2 I r) (wPo D cs b G) (fun q => b ≤ q)) 0 0 (fun q => b ≤ q) := by
  have hq := vc_X6_has x1 x2 I hp
  refine w_met (by decide) (Nat.le_of_ble_eq_true rfl) ?_
  intro p e s m below meth c hX hr hlk hK hE hH ls hl
  have C0 : wCx p m c s _ meth cX6_has 3 RX6 (some .boolean) D cs ad b := ⟨hX, hr, hlk, hK, hE⟩
  have hX : CallFix p m c cX6_has 3 s _ lw_all RX6 := hX
  have hx := hX.1
  have hb := hX.2.1
  have hown := hX.2.2.2.1
  have hts := hX.2.2.2.2
  have hl : lv_has ls 3 [(0, .ref (b + 111)), (1, .int x1), (2, .int x2)] := hl
  unfold v_X6_has at hq
  refine lv_aload_n hx hb dX6_has_0 rfl (lv_at hl 0 rfl) ?_
  refine w_getr hX hK hH ck6 sh111 1 1 112 fr6_1 rfl q4_74 dX6_has_1 ?_
  refine lv_bipush (v := 18) hx hb dX6_has_4 (by decide) ?_
  refine lv_iload_n hx hb dX6_has_6 rfl (lv_at hl 1 rfl) ?_
  refine lv_iadd hx hb dX6_has_7 ?_
  obtain ⟨hc, hq⟩ := hq
  refine w_iald hX hK hH (sf6_1 sh111) hc dX6_has_8 ?_
  refine lv_iload_n hx hb dX6_has_9 rfl (lv_at hl 2 rfl) ?_
  refine lv_ishr hx hb dX6_has_10 ?_
  refine lv_iconst (v := 1) hx hb dX6_has_11 (by decide) ?_
  refine lv_iand hx hb dX6_has_12 ?_
  refine lv_iconst (v := 1) hx hb dX6_has_13 (by decide) ?_
  refine lv_icmp_ne (tgt := 21) hx hb dX6_has_14 (by decide) (fun hc => ?_) (fun hc => ?_)
  · have hq := hq.1 hc
    refine lv_iconst (v := 0) hx hb dX6_has_21 (by decide) ?_
    exact s_X6_has_22  C0  (0 : Int32) _ _ _ hq hH (lv_sub hl [] rfl)
  · have hq := hq.2 hc
    refine lv_iconst (v := 1) hx hb dX6_has_17 (by decide) ?_
    refine lv_goto (tgt := 22) hx hb dX6_has_18 (by decide) ?_
    exact s_X6_has_22  C0  (1 : Int32) _ _ _ hq hH (lv_sub hl [] rfl)
abbrev rm_X6_ones : Room := { frames := 0, cells := 0, slots := 0, locals := 0 }
theorem hd_X6_ones : yX6_ones.cls = RX6 ∧ yX6_ones.cls ≠ "java/lang/invoke/MethodHandle" ∧ yX6_ones.cls ≠ "java/lang/invoke/VarHandle" ∧ (parseMethodDescriptor yX6_ones.desc).map (fun d => d.parameters.length) = some 1 := by decide +kernel
set_option maxRecDepth 100000 in
set_option maxHeartbeats 4000000 in
theorem s_X6_ones_4 {x0 : Int32} {I : wI} {Q : Int32 → Prop} (C0 : wCx p m c s args meth cX6_ones 3 RX6 (some .int) D cs ad b) : ∀ (f : Nat) (v1 : Int32) (v2 : Int32) (H : Heap) (locs : List Loc) (ls : Array Slot), v_X6_ones_4 x0 I Q f v1 v2 → wH D cs b G I s H locs → lv_has ls 3 [(0, .int x0), (1, .int v1), (2, .int v2)] → W p l e rm_X6_ones s m args below meth c H locs 0 0 (MQ below (va_Qi (fun r I' => I' = I ∧ Q r) (wPo D cs b G) (fun q => b ≤ q)) args s 0 0 (fun q => b ≤ q)) (F0 m 4 ls []) := by
  obtain ⟨hX, hr, hlk, hK, hE⟩ := id C0
  have hx := hX.1
  have hb := hX.2.1
  have hown := hX.2.2.2.1
  have hts := hX.2.2.2.2
  intro f
  induction f with
  | zero =>
    intro v1 v2 H locs ls hq
    exact hq.elim
  | succ f hK4 =>
    intro v1 v2 H locs ls hq hH hl
    have hq : g_X6_ones_4 x0 I Q (v_X6_ones_4 x0 I Q f) v1 v2 := hq
    unfold g_X6_ones_4 at hq
    refine lv_iload_n hx hb dX6_ones_4 rfl (lv_at hl 2 rfl) ?_
    refine lv_bipush (v := 6) hx hb dX6_ones_5 (by decide) ?_
    refine lv_icmp_ge (tgt := 24) hx hb dX6_ones_7 (by decide) (fun hc => ?_) (fun hc => ?_)
    · have hq := hq.1 hc
      refine lv_iload_n hx hb dX6_ones_24 rfl (lv_at hl 1 rfl) ?_
      exact w_eI hX hr hlk hH ⟨rfl, hq⟩ dX6_ones_25
    · have hq := hq.2 hc
      refine lv_iload_n hx hb dX6_ones_10 rfl (lv_at hl 1 rfl) ?_
      refine lv_iload_n hx hb dX6_ones_11 rfl (lv_at hl 0 rfl) ?_
      refine lv_iload_n hx hb dX6_ones_12 rfl (lv_at hl 2 rfl) ?_
      refine lv_ishr hx hb dX6_ones_13 ?_
      refine lv_iconst (v := 1) hx hb dX6_ones_14 (by decide) ?_
      refine lv_iand hx hb dX6_ones_15 ?_
      refine lv_iadd hx hb dX6_ones_16 ?_
      refine lv_istore_n (lv' := [(1, .int (v1 + ((x0 >>> (v2 &&& 31)) &&& (1 : Int32)))), (0, .int x0), (2, .int v2)]) hx hb dX6_ones_17 rfl hl (by decide) rfl (fun ls hl => ?_)
      refine lv_iinc (v := (v2 + (1 : Int32))) (lv' := [(2, .int (v2 + (1 : Int32))), (1, .int (v1 + ((x0 >>> (v2 &&& 31)) &&& (1 : Int32)))), (0, .int x0)]) hx hb dX6_ones_18 hl (k := 2) rfl rfl (by decide) rfl (fun ls hl => ?_)
      refine lv_goto (tgt := 4) hx hb dX6_ones_21 (by decide) ?_
      exact hK4 (v1 + ((x0 >>> (v2 &&& 31)) &&& (1 : Int32))) (v2 + (1 : Int32)) _ _ _ hq hH (lv_sub hl [2, 1, 0] rfl)
set_option maxRecDepth 100000 in
set_option maxHeartbeats 4000000 in
theorem c_X6_ones {l : Launch} {D : va_G} {cs : wC4} {ad : Nat → Nat} {b : Nat} {G : wG} (x0 : Int32) (I : wI) (hp : pre_X6_ones x0 I) : Met l yX6_ones (ws_ yX6_ones cX6_ones 3 (some .int)) rm_X6_ones (va_Pc [.int x0] (wPr D cs ad b G I)) (va_Qi (fun r I' => I' = I ∧ post_X6_ones x0 I r) (wPo D cs b G) (fun q => b ≤ q)) 0 0 (fun q => b ≤ q) := by
  have hq := vc_X6_ones x0 I hp
  refine w_met (by decide) (Nat.le_of_ble_eq_true rfl) ?_
  intro p e s m below meth c hX hr hlk hK hE hH ls hl
  have C0 : wCx p m c s _ meth cX6_ones 3 RX6 (some .int) D cs ad b := ⟨hX, hr, hlk, hK, hE⟩
  have hX : CallFix p m c cX6_ones 3 s _ lw_all RX6 := hX
  have hx := hX.1
  have hb := hX.2.1
  have hown := hX.2.2.2.1
  have hts := hX.2.2.2.2
  have hl : lv_has ls 3 [(0, .int x0)] := hl
  unfold v_X6_ones at hq
  refine lv_iconst (v := 0) hx hb dX6_ones_0 (by decide) ?_
  refine lv_istore_n (lv' := [(1, .int (0 : Int32)), (0, .int x0)]) hx hb dX6_ones_1 rfl hl (by decide) rfl (fun ls hl => ?_)
  refine lv_iconst (v := 0) hx hb dX6_ones_2 (by decide) ?_
  refine lv_istore_n (lv' := [(2, .int (0 : Int32)), (1, .int (0 : Int32)), (0, .int x0)]) hx hb dX6_ones_3 rfl hl (by decide) rfl (fun ls hl => ?_)
  obtain ⟨f, hq⟩ := hq
  exact s_X6_ones_4  C0  f (0 : Int32) (0 : Int32) _ _ _ hq hH (lv_sub hl [2, 1, 0] rfl)
end
