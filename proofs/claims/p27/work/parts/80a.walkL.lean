section
variable {p : Program} {l : Launch} {e : Env} {s : State} {m : MethodId} {args : Array Value} {below : List Frame} {meth : Method} {c : Code} {D : va_G} {cs : wC4} {ad : Nat → Nat} {b : Nat} {G B : wG}
abbrev rm_L_low : Room := { frames := 0, cells := 0, slots := 0, locals := 0 }
theorem hd_L_low : yL_low.cls = RL ∧ yL_low.cls ≠ "java/lang/invoke/MethodHandle" ∧ yL_low.cls ≠ "java/lang/invoke/VarHandle" ∧ (parseMethodDescriptor yL_low.desc).map (fun d => d.parameters.length) = some 2 := by decide +kernel
set_option maxRecDepth 100000 in
set_option maxHeartbeats 4000000 in
theorem c_L_low {l : Launch} {D : va_G} {cs : wC4} {ad : Nat → Nat} {b : Nat} {G : wG} (x0 : Int32) (x1 : Int32) (I : wI) (hp : pre_L_low x0 x1 I) : Met l yL_low (ws_ yL_low cL_low 2 (some .int)) rm_L_low (va_Pc [.int x0, .int x1] (wPr D cs ad b G I)) (va_Qi (fun r I' => I' = I ∧ post_L_low x0 x1 I r) (wPo D cs b G) (fun q => b ≤ q)) 0 0 (fun q => b ≤ q) := by
  have hq := vc_L_low x0 x1 I hp
  refine w_met (by decide) (Nat.le_of_ble_eq_true rfl) ?_
  intro p e s m below meth c hX hr hlk hK hE hH ls hl
  have C0 : wCx p m c s _ meth cL_low 2 RL (some .int) D cs ad b := ⟨hX, hr, hlk, hK, hE⟩
  have hX : CallFix p m c cL_low 2 s _ lw_all RL := hX
  have hx := hX.1
  have hb := hX.2.1
  have hown := hX.2.2.2.1
  have hts := hX.2.2.2.2
  have hl : lv_has ls 2 [(0, .int x0), (1, .int x1)] := hl
  unfold v_L_low at hq
  refine lv_iload_n hx hb dL_low_0 rfl (lv_at hl 0 rfl) ?_
  refine lv_ldc hx hb hown (hts _ q3_130) dL_low_1 ?_
  refine lv_iand hx hb dL_low_3 ?_
  refine lv_iload_n hx hb dL_low_4 rfl (lv_at hl 1 rfl) ?_
  obtain ⟨hc, hq⟩ := hq
  refine lv_irem hx hb dL_low_5 hc ?_
  exact w_eI hX hr hlk hH ⟨rfl, hq⟩ dL_low_6
abbrev rm_L_step : Room := { frames := 0, cells := 0, slots := 0, locals := 0 }
theorem hd_L_step : yL_step.cls = RL ∧ yL_step.cls ≠ "java/lang/invoke/MethodHandle" ∧ yL_step.cls ≠ "java/lang/invoke/VarHandle" ∧ (parseMethodDescriptor yL_step.desc).map (fun d => d.parameters.length) = some 3 := by decide +kernel
set_option maxRecDepth 100000 in
set_option maxHeartbeats 4000000 in
theorem s_L_step_7 {x0 : Int32} {x1 : Int32} {x2 : Int32} {I : wI} {Q : Int32 → Prop} (C0 : wCx p m c s args meth cL_step 4 RL (some .int) D cs ad b) : ∀ (f : Nat) (v3 : Int32) (H : Heap) (locs : List Loc) (ls : Array Slot), v_L_step_7 x0 x1 x2 I Q f v3 → wH D cs b G I s H locs → lv_has ls 4 [(0, .int x0), (2, .int x2), (3, .int v3)] → W p l e rm_L_step s m args below meth c H locs 0 0 (MQ below (va_Qi (fun r I' => I' = I ∧ Q r) (wPo D cs b G) (fun q => b ≤ q)) args s 0 0 (fun q => b ≤ q)) (F0 m 7 ls []) := by
  obtain ⟨hX, hr, hlk, hK, hE⟩ := id C0
  have hx := hX.1
  have hb := hX.2.1
  have hown := hX.2.2.2.1
  have hts := hX.2.2.2.2
  intro f
  induction f with
  | zero =>
    intro v3 H locs ls hq
    exact hq.elim
  | succ f hK7 =>
    intro v3 H locs ls hq hH hl
    have hq : g_L_step_7 x0 x1 x2 I Q (v_L_step_7 x0 x1 x2 I Q f) v3 := hq
    unfold g_L_step_7 at hq
    refine lv_iload_n hx hb dL_step_7 rfl (lv_at hl 0 rfl) ?_
    refine lv_iload_n hx hb dL_step_8 rfl (lv_at hl 2 rfl) ?_
    refine lv_ishr hx hb dL_step_9 ?_
    refine lv_iconst (v := 1) hx hb dL_step_10 (by decide) ?_
    refine lv_iand hx hb dL_step_11 ?_
    refine lv_if_ne (tgt := 25) hx hb dL_step_12 (by decide) (fun hc => ?_) (fun hc => ?_)
    · have hq := hq.1 hc
      refine lv_iload_n hx hb dL_step_25 rfl (lv_at hl 2 rfl) ?_
      exact w_eI hX hr hlk hH ⟨rfl, hq⟩ dL_step_26
    · have hq := hq.2 hc
      refine lv_iload_n hx hb dL_step_15 rfl (lv_at hl 2 rfl) ?_
      refine lv_iload_n hx hb dL_step_16 rfl (lv_at hl 1 rfl) ?_
      refine lv_iadd hx hb dL_step_17 ?_
      refine lv_bipush (v := 6) hx hb dL_step_18 (by decide) ?_
      refine lv_irem hx hb dL_step_20 (by decide) ?_
      refine lv_istore_n (lv' := [(3, .int ((v3 + x2) - (v3 + x2) / (6 : Int32) * (6 : Int32))), (0, .int x0), (2, .int x2)]) hx hb dL_step_21 rfl hl (by decide) rfl (fun ls hl => ?_)
      refine lv_goto (tgt := 7) hx hb dL_step_22 (by decide) ?_
      exact hK7 ((v3 + x2) - (v3 + x2) / (6 : Int32) * (6 : Int32)) _ _ _ hq hH (lv_sub hl [1, 2, 0] rfl)
set_option maxRecDepth 100000 in
set_option maxHeartbeats 4000000 in
theorem c_L_step {l : Launch} {D : va_G} {cs : wC4} {ad : Nat → Nat} {b : Nat} {G : wG} (x0 : Int32) (x1 : Int32) (x2 : Int32) (I : wI) (hp : pre_L_step x0 x1 x2 I) : Met l yL_step (ws_ yL_step cL_step 4 (some .int)) rm_L_step (va_Pc [.int x0, .int x1, .int x2] (wPr D cs ad b G I)) (va_Qi (fun r I' => I' = I ∧ post_L_step x0 x1 x2 I r) (wPo D cs b G) (fun q => b ≤ q)) 0 0 (fun q => b ≤ q) := by
  have hq := vc_L_step x0 x1 x2 I hp
  refine w_met (by decide) (Nat.le_of_ble_eq_true rfl) ?_
  intro p e s m below meth c hX hr hlk hK hE hH ls hl
  have C0 : wCx p m c s _ meth cL_step 4 RL (some .int) D cs ad b := ⟨hX, hr, hlk, hK, hE⟩
  have hX : CallFix p m c cL_step 4 s _ lw_all RL := hX
  have hx := hX.1
  have hb := hX.2.1
  have hown := hX.2.2.2.1
  have hts := hX.2.2.2.2
  have hl : lv_has ls 4 [(0, .int x0), (1, .int x1), (2, .int x2)] := hl
  unfold v_L_step at hq
  refine lv_iload_n hx hb dL_step_0 rfl (lv_at hl 1 rfl) ?_
  refine lv_iload_n hx hb dL_step_1 rfl (lv_at hl 2 rfl) ?_
  refine lv_iadd hx hb dL_step_2 ?_
  refine lv_bipush (v := 6) hx hb dL_step_3 (by decide) ?_
  refine lv_irem hx hb dL_step_5 (by decide) ?_
  refine lv_istore_n (lv' := [(3, .int ((x1 + x2) - (x1 + x2) / (6 : Int32) * (6 : Int32))), (0, .int x0), (1, .int x1), (2, .int x2)]) hx hb dL_step_6 rfl hl (by decide) rfl (fun ls hl => ?_)
  obtain ⟨f, hq⟩ := hq
  exact s_L_step_7  C0  f ((x1 + x2) - (x1 + x2) / (6 : Int32) * (6 : Int32)) _ _ _ hq hH (lv_sub hl [1, 3, 0] rfl)
abbrev rm_L_doTurn : Room := { frames := 1, cells := 0, slots := 0, locals := 23 }
theorem hd_L_doTurn : yL_doTurn.cls = RL ∧ yL_doTurn.cls ≠ "java/lang/invoke/MethodHandle" ∧ yL_doTurn.cls ≠ "java/lang/invoke/VarHandle" ∧ (parseMethodDescriptor yL_doTurn.desc).map (fun d => d.parameters.length) = some 3 := by decide +kernel
set_option maxRecDepth 100000 in
set_option maxHeartbeats 4000000 in
theorem s_L_doTurn_92 {k0 : Nat} {x2 : Int32} {Q : wI → Prop} {K18 : Int32 → Int32 → Int32 → wI → Prop} (ha0 : wSh k0 = (5, 12) ∧ k0 < G.2) (C0 : wCx p m c s args meth cL_doTurn 6 RL none D cs ad b) (hK18 : ∀ (v3 : Int32) (v4 : Int32) (v5 : Int32) (I : wI) (H : Heap) (locs : List Loc) (ls : Array Slot), K18 v3 v4 v5 I → wH D cs b G I s H locs → lv_has ls 6 [(0, .ref (G.1 k0)), (2, .int x2), (3, .int v3), (4, .int v4), (5, .int v5)] → W p l e rm_L_doTurn s m args below meth c H locs 0 0 (MQ below (va_Qv (Q) (wPo D cs b G) (fun q => b ≤ q)) args s 0 0 (fun q => b ≤ q)) (F0 m 18 ls [])) : ∀ (v3 : Int32) (v4 : Int32) (v5 : Int32) (I : wI) (H : Heap) (locs : List Loc) (ls : Array Slot), v_L_doTurn_92 k0 x2 Q K18 v3 v4 v5 I → wH D cs b G I s H locs → lv_has ls 6 [(0, .ref (G.1 k0)), (2, .int x2), (3, .int v3), (4, .int v4), (5, .int v5)] → W p l e rm_L_doTurn s m args below meth c H locs 0 0 (MQ below (va_Qv (Q) (wPo D cs b G) (fun q => b ≤ q)) args s 0 0 (fun q => b ≤ q)) (F0 m 92 ls []) := by
  obtain ⟨hX, hr, hlk, hK, hE⟩ := id C0
  have hx := hX.1
  have hb := hX.2.1
  have hown := hX.2.2.2.1
  have hts := hX.2.2.2.2
  intro v3 v4 v5 I H locs ls hq hH hl
  unfold v_L_doTurn_92 at hq
  refine lv_iinc (v := (v5 + (1 : Int32))) (lv' := [(5, .int (v5 + (1 : Int32))), (0, .ref (G.1 k0)), (2, .int x2), (3, .int v3), (4, .int v4)]) hx hb dL_doTurn_92 hl (k := 4) rfl rfl (by decide) rfl (fun ls hl => ?_)
  refine lv_goto (tgt := 18) hx hb dL_doTurn_95 (by decide) ?_
  exact hK18 v3 v4 (v5 + (1 : Int32)) _ _ _ _ hq hH (lv_sub hl [1, 2, 3, 4, 0] rfl)
set_option maxRecDepth 100000 in
set_option maxHeartbeats 4000000 in
theorem s_L_doTurn_88 {k0 : Nat} {x2 : Int32} {Q : wI → Prop} {K18 : Int32 → Int32 → Int32 → wI → Prop} (ha0 : wSh k0 = (5, 12) ∧ k0 < G.2) (C0 : wCx p m c s args meth cL_doTurn 6 RL none D cs ad b) (hK18 : ∀ (v3 : Int32) (v4 : Int32) (v5 : Int32) (I : wI) (H : Heap) (locs : List Loc) (ls : Array Slot), K18 v3 v4 v5 I → wH D cs b G I s H locs → lv_has ls 6 [(0, .ref (G.1 k0)), (2, .int x2), (3, .int v3), (4, .int v4), (5, .int v5)] → W p l e rm_L_doTurn s m args below meth c H locs 0 0 (MQ below (va_Qv (Q) (wPo D cs b G) (fun q => b ≤ q)) args s 0 0 (fun q => b ≤ q)) (F0 m 18 ls [])) : ∀ (v3 : Int32) (v4 : Int32) (v5 : Int32) (t0 : Int32) (t1 : Int32) (t2 : Int32) (I : wI) (H : Heap) (locs : List Loc) (ls : Array Slot), v_L_doTurn_88 k0 x2 Q K18 v3 v4 v5 t0 t1 t2 I → wH D cs b G I s H locs → lv_has ls 6 [(0, .ref (G.1 k0)), (2, .int x2), (3, .int v3), (4, .int v4), (5, .int v5)] → W p l e rm_L_doTurn s m args below meth c H locs 0 0 (MQ below (va_Qv (Q) (wPo D cs b G) (fun q => b ≤ q)) args s 0 0 (fun q => b ≤ q)) (F0 m 88 ls [.int t0, .int t1, .int t2, .ref (G.1 k0)]) := by
  obtain ⟨hX, hr, hlk, hK, hE⟩ := id C0
  have hx := hX.1
  have hb := hX.2.1
  have hown := hX.2.2.2.1
  have hts := hX.2.2.2.2
  intro v3 v4 v5 t0 t1 t2 I H locs ls hq hH hl
  unfold v_L_doTurn_88 at hq
  refine lv_iadd hx hb dL_doTurn_88 ?_
  refine lv_iconst (v := 5) hx hb dL_doTurn_89 (by decide) ?_
  refine lv_irem hx hb dL_doTurn_90 (by decide) ?_
  obtain ⟨hc, hq⟩ := hq
  refine w_iast5 hX hK hH ha0 hc dL_doTurn_91 (fun I1 H locs hI hH => ?_)
  have hq := hq I1 hI
  exact s_L_doTurn_92 ha0 C0 hK18 v3 v4 v5 _ _ _ _ hq hH (lv_sub hl [0, 1, 2, 3, 4] rfl)
set_option maxRecDepth 100000 in
set_option maxHeartbeats 4000000 in
theorem s_L_doTurn_57 {k0 : Nat} {x2 : Int32} {Q : wI → Prop} {K18 : Int32 → Int32 → Int32 → wI → Prop} (ha0 : wSh k0 = (5, 12) ∧ k0 < G.2) (C0 : wCx p m c s args meth cL_doTurn 6 RL none D cs ad b) (hK18 : ∀ (v3 : Int32) (v4 : Int32) (v5 : Int32) (I : wI) (H : Heap) (locs : List Loc) (ls : Array Slot), K18 v3 v4 v5 I → wH D cs b G I s H locs → lv_has ls 6 [(0, .ref (G.1 k0)), (2, .int x2), (3, .int v3), (4, .int v4), (5, .int v5)] → W p l e rm_L_doTurn s m args below meth c H locs 0 0 (MQ below (va_Qv (Q) (wPo D cs b G) (fun q => b ≤ q)) args s 0 0 (fun q => b ≤ q)) (F0 m 18 ls [])) : ∀ (v3 : Int32) (v4 : Int32) (v5 : Int32) (t0 : Int32) (t1 : Int32) (t2 : Int32) (t3 : Int32) (I : wI) (H : Heap) (locs : List Loc) (ls : Array Slot), v_L_doTurn_57 k0 x2 Q K18 v3 v4 v5 t0 t1 t2 t3 I → wH D cs b G I s H locs → lv_has ls 6 [(0, .ref (G.1 k0)), (2, .int x2), (3, .int v3), (4, .int v4), (5, .int v5)] → W p l e rm_L_doTurn s m args below meth c H locs 0 0 (MQ below (va_Qv (Q) (wPo D cs b G) (fun q => b ≤ q)) args s 0 0 (fun q => b ≤ q)) (F0 m 57 ls [.int t0, .int t1, .int t2, .int t3, .ref (G.1 k0)]) := by
  obtain ⟨hX, hr, hlk, hK, hE⟩ := id C0
  have hx := hX.1
  have hb := hX.2.1
  have hown := hX.2.2.2.1
  have hts := hX.2.2.2.2
  intro v3 v4 v5 t0 t1 t2 t3 I H locs ls hq hH hl
  unfold v_L_doTurn_57 at hq
  obtain ⟨hp, hq⟩ := hq
  refine w_cIp hH (w_rS (As := [.int t2, .int t1, .int t0]) (rest := [.int t3, .ref (G.1 k0)]) hX hK hE hH (c_L_step  _ _ _ _ hp) q3_90 q3_91 q1_0 q3_92 hd_L_step.2 ⟨Nat.le_of_ble_eq_true rfl, Nat.le_of_ble_eq_true rfl⟩ ⟨rfl, rfl⟩ rfl hl.1 rfl (Nat.le_of_ble_eq_true rfl) dL_doTurn_57 ⟨Nat.zero_le _, Nat.zero_le _⟩) (fun r1  H locs hpo hH => ?_)
  have hq := hq r1  hpo
  obtain ⟨hc, hq⟩ := hq
  refine w_iast5 hX hK hH ha0 hc dL_doTurn_60 (fun I2 H locs hI hH => ?_)
  have hq := hq I2 hI
  refine lv_aload_n hx hb dL_doTurn_61 rfl (lv_at hl 0 rfl) ?_
  refine lv_bipush (v := 6) hx hb dL_doTurn_62 (by decide) ?_
  refine lv_iload hx hb dL_doTurn_64 (lv_at hl 4 rfl) ?_
  refine lv_iadd hx hb dL_doTurn_66 ?_
  refine lv_aload_n hx hb dL_doTurn_67 rfl (lv_at hl 0 rfl) ?_
  refine lv_bipush (v := 6) hx hb dL_doTurn_68 (by decide) ?_
  refine lv_iload hx hb dL_doTurn_70 (lv_at hl 4 rfl) ?_
  refine lv_iadd hx hb dL_doTurn_72 ?_
  obtain ⟨hc, hq⟩ := hq
  refine w_iald5 hX hK hH ha0 hc dL_doTurn_73 ?_
  refine lv_iload_n hx hb dL_doTurn_74 rfl (lv_at hl 1 rfl) ?_
  refine lv_iconst (v := 5) hx hb dL_doTurn_75 (by decide) ?_
  refine lv_icmp_ge (tgt := 84) hx hb dL_doTurn_76 (by decide) (fun hc => ?_) (fun hc => ?_)
  · have hq := hq.1 hc
    refine lv_iconst (v := 5) hx hb dL_doTurn_84 (by decide) ?_
    refine lv_iload hx hb dL_doTurn_85 (lv_at hl 3 rfl) ?_
    refine lv_isub hx hb dL_doTurn_87 ?_
    exact s_L_doTurn_88 ha0 C0 hK18 v3 v4 v5 ((5 : Int32) - v4) (I2 k0 (((6 : Int32) + v5)).toNatClampNeg) ((6 : Int32) + v5) _ _ _ _ hq hH (lv_sub hl [0, 1, 2, 3, 4] rfl)
  · have hq := hq.2 hc
    refine lv_iload hx hb dL_doTurn_79 (lv_at hl 3 rfl) ?_
    refine lv_goto (tgt := 88) hx hb dL_doTurn_81 (by decide) ?_
    exact s_L_doTurn_88 ha0 C0 hK18 v3 v4 v5 v4 (I2 k0 (((6 : Int32) + v5)).toNatClampNeg) ((6 : Int32) + v5) _ _ _ _ hq hH (lv_sub hl [0, 1, 2, 3, 4] rfl)
set_option maxRecDepth 100000 in
set_option maxHeartbeats 4000000 in
theorem s_L_doTurn_18 {k0 : Nat} {x2 : Int32} {Q : wI → Prop} (ha0 : wSh k0 = (5, 12) ∧ k0 < G.2) (C0 : wCx p m c s args meth cL_doTurn 6 RL none D cs ad b) : ∀ (f : Nat) (v3 : Int32) (v4 : Int32) (v5 : Int32) (I : wI) (H : Heap) (locs : List Loc) (ls : Array Slot), v_L_doTurn_18 k0 x2 Q f v3 v4 v5 I → wH D cs b G I s H locs → lv_has ls 6 [(0, .ref (G.1 k0)), (2, .int x2), (3, .int v3), (4, .int v4), (5, .int v5)] → W p l e rm_L_doTurn s m args below meth c H locs 0 0 (MQ below (va_Qv (Q) (wPo D cs b G) (fun q => b ≤ q)) args s 0 0 (fun q => b ≤ q)) (F0 m 18 ls []) := by
  obtain ⟨hX, hr, hlk, hK, hE⟩ := id C0
  have hx := hX.1
  have hb := hX.2.1
  have hown := hX.2.2.2.1
  have hts := hX.2.2.2.2
  intro f
  induction f with
  | zero =>
    intro v3 v4 v5 I H locs ls hq
    exact hq.elim
  | succ f hK18 =>
    intro v3 v4 v5 I H locs ls hq hH hl
    have hq : g_L_doTurn_18 k0 x2 Q (v_L_doTurn_18 k0 x2 Q f) v3 v4 v5 I := hq
    unfold g_L_doTurn_18 at hq
    refine lv_iload hx hb dL_doTurn_18 (lv_at hl 4 rfl) ?_
    refine lv_bipush (v := 6) hx hb dL_doTurn_20 (by decide) ?_
    refine lv_icmp_ge (tgt := 98) hx hb dL_doTurn_22 (by decide) (fun hc => ?_) (fun hc => ?_)
    · have hq := hq.1 hc
      exact w_eV hX hr hlk hH hq dL_doTurn_98
    · have hq := hq.2 hc
      refine lv_iload_n hx hb dL_doTurn_25 rfl (lv_at hl 2 rfl) ?_
      refine lv_aload_n hx hb dL_doTurn_26 rfl (lv_at hl 0 rfl) ?_
      refine lv_iload hx hb dL_doTurn_27 (lv_at hl 4 rfl) ?_
      obtain ⟨hc, hq⟩ := hq
      refine w_iald5 hX hK hH ha0 hc dL_doTurn_29 ?_
      refine lv_ishr hx hb dL_doTurn_30 ?_
      refine lv_iconst (v := 1) hx hb dL_doTurn_31 (by decide) ?_
      refine lv_iand hx hb dL_doTurn_32 ?_
      refine lv_if_ne (tgt := 39) hx hb dL_doTurn_33 (by decide) (fun hc => ?_) (fun hc => ?_)
      · have hq := hq.1 hc
        refine lv_aload_n hx hb dL_doTurn_39 rfl (lv_at hl 0 rfl) ?_
        refine lv_iload hx hb dL_doTurn_40 (lv_at hl 4 rfl) ?_
        refine lv_iload_n hx hb dL_doTurn_42 rfl (lv_at hl 2 rfl) ?_
        refine lv_aload_n hx hb dL_doTurn_43 rfl (lv_at hl 0 rfl) ?_
        refine lv_iload hx hb dL_doTurn_44 (lv_at hl 4 rfl) ?_
        obtain ⟨hc, hq⟩ := hq
        refine w_iald5 hX hK hH ha0 hc dL_doTurn_46 ?_
        refine lv_iload_n hx hb dL_doTurn_47 rfl (lv_at hl 1 rfl) ?_
        refine lv_iconst (v := 5) hx hb dL_doTurn_48 (by decide) ?_
        refine lv_icmp_ge (tgt := 56) hx hb dL_doTurn_49 (by decide) (fun hc => ?_) (fun hc => ?_)
        · have hq := hq.1 hc
          refine lv_iconst (v := 5) hx hb dL_doTurn_56 (by decide) ?_
          exact s_L_doTurn_57 ha0 C0 hK18 v3 v4 v5 (5 : Int32) (I k0 (v5).toNatClampNeg) v3 v5 _ _ _ _ hq hH (lv_sub hl [0, 1, 2, 3, 4] rfl)
        · have hq := hq.2 hc
          refine lv_iconst (v := 1) hx hb dL_doTurn_52 (by decide) ?_
          refine lv_goto (tgt := 57) hx hb dL_doTurn_53 (by decide) ?_
          exact s_L_doTurn_57 ha0 C0 hK18 v3 v4 v5 (1 : Int32) (I k0 (v5).toNatClampNeg) v3 v5 _ _ _ _ hq hH (lv_sub hl [0, 1, 2, 3, 4] rfl)
      · have hq := hq.2 hc
        refine lv_goto (tgt := 92) hx hb dL_doTurn_36 (by decide) ?_
        exact s_L_doTurn_92 ha0 C0 hK18 v3 v4 v5 _ _ _ _ hq hH (lv_sub hl [0, 1, 2, 3, 4] rfl)
set_option maxRecDepth 100000 in
set_option maxHeartbeats 4000000 in
theorem c_L_doTurn {l : Launch} {D : va_G} {cs : wC4} {ad : Nat → Nat} {b : Nat} {G : wG} {k0 : Nat} (ha0 : wSh k0 = (5, 12) ∧ k0 < G.2) (x2 : Int32) (I : wI) (hp : pre_L_doTurn k0 x2 I) : Met l yL_doTurn (ws_ yL_doTurn cL_doTurn 6 none) rm_L_doTurn (va_Pc [.ref (G.1 k0), .ref (G.1 112), .int x2] (wPr D cs ad b G I)) (va_Qv (fun I' => post_L_doTurn k0 x2 I I') (wPo D cs b G) (fun q => b ≤ q)) 0 0 (fun q => b ≤ q) := by
  have hq := vc_L_doTurn k0 x2 I hp
  refine w_met (by decide) (Nat.le_of_ble_eq_true rfl) ?_
  intro p e s m below meth c hX hr hlk hK hE hH ls hl
  have C0 : wCx p m c s _ meth cL_doTurn 6 RL none D cs ad b := ⟨hX, hr, hlk, hK, hE⟩
  have hX : CallFix p m c cL_doTurn 6 s _ lw_all RL := hX
  have hx := hX.1
  have hb := hX.2.1
  have hown := hX.2.2.2.1
  have hts := hX.2.2.2.2
  have hl : lv_has ls 6 [(0, .ref (G.1 k0)), (1, .ref (G.1 112)), (2, .int x2)] := hl
  unfold v_L_doTurn at hq
  refine lv_aload_n hx hb dL_doTurn_0 rfl (lv_at hl 1 rfl) ?_
  refine lv_iload_n hx hb dL_doTurn_1 rfl (lv_at hl 2 rfl) ?_
  refine lv_iconst (v := 5) hx hb dL_doTurn_2 (by decide) ?_
  refine lv_irem hx hb dL_doTurn_3 (by decide) ?_
  obtain ⟨hc, hq⟩ := hq
  refine w_iald5 hX hK hH (la112 hH.2.2.1) hc dL_doTurn_4 ?_
  refine lv_istore_n (lv' := [(3, .int (I 112 ((x2 - x2 / (5 : Int32) * (5 : Int32))).toNatClampNeg)), (0, .ref (G.1 k0)), (1, .ref (G.1 112)), (2, .int x2)]) hx hb dL_doTurn_5 rfl hl (by decide) rfl (fun ls hl => ?_)
  refine lv_aload_n hx hb dL_doTurn_6 rfl (lv_at hl 2 rfl) ?_
  refine lv_iconst (v := 5) hx hb dL_doTurn_7 (by decide) ?_
  refine lv_iload_n hx hb dL_doTurn_8 rfl (lv_at hl 3 rfl) ?_
  refine lv_iconst (v := 5) hx hb dL_doTurn_9 (by decide) ?_
  refine lv_irem hx hb dL_doTurn_10 (by decide) ?_
  refine lv_iadd hx hb dL_doTurn_11 ?_
  obtain ⟨hc, hq⟩ := hq
  refine w_iald5 hX hK hH (la112 hH.2.2.1) hc dL_doTurn_12 ?_
  refine lv_istore (lv' := [(4, .int (I 112 (((5 : Int32) + (x2 - x2 / (5 : Int32) * (5 : Int32)))).toNatClampNeg)), (3, .int (I 112 ((x2 - x2 / (5 : Int32) * (5 : Int32))).toNatClampNeg)), (0, .ref (G.1 k0)), (1, .ref (G.1 112)), (2, .int x2)]) hx hb dL_doTurn_13 hl (by decide) rfl (fun ls hl => ?_)
  refine lv_iconst (v := 0) hx hb dL_doTurn_15 (by decide) ?_
  refine lv_istore (lv' := [(5, .int (0 : Int32)), (4, .int (I 112 (((5 : Int32) + (x2 - x2 / (5 : Int32) * (5 : Int32)))).toNatClampNeg)), (3, .int (I 112 ((x2 - x2 / (5 : Int32) * (5 : Int32))).toNatClampNeg)), (0, .ref (G.1 k0)), (1, .ref (G.1 112)), (2, .int x2)]) hx hb dL_doTurn_16 hl (by decide) rfl (fun ls hl => ?_)
  obtain ⟨f, hq⟩ := hq
  exact s_L_doTurn_18 ha0 C0  f (I 112 ((x2 - x2 / (5 : Int32) * (5 : Int32))).toNatClampNeg) (I 112 (((5 : Int32) + (x2 - x2 / (5 : Int32) * (5 : Int32)))).toNatClampNeg) (0 : Int32) _ _ _ _ hq hH (lv_sub hl [3, 5, 2, 1, 0] rfl)
abbrev rm_L_first : Room := { frames := 0, cells := 0, slots := 0, locals := 0 }
theorem hd_L_first : yL_first.cls = RL ∧ yL_first.cls ≠ "java/lang/invoke/MethodHandle" ∧ yL_first.cls ≠ "java/lang/invoke/VarHandle" ∧ (parseMethodDescriptor yL_first.desc).map (fun d => d.parameters.length) = some 1 := by decide +kernel
set_option maxRecDepth 100000 in
set_option maxHeartbeats 4000000 in
theorem s_L_first_2 {k0 : Nat} {Q : wI → Prop} (ha0 : wSh k0 = (5, 12) ∧ k0 < G.2) (C0 : wCx p m c s args meth cL_first 2 RL none D cs ad b) : ∀ (f : Nat) (v1 : Int32) (I : wI) (H : Heap) (locs : List Loc) (ls : Array Slot), v_L_first_2 k0 Q f v1 I → wH D cs b G I s H locs → lv_has ls 2 [(0, .ref (G.1 k0)), (1, .int v1)] → W p l e rm_L_first s m args below meth c H locs 0 0 (MQ below (va_Qv (Q) (wPo D cs b G) (fun q => b ≤ q)) args s 0 0 (fun q => b ≤ q)) (F0 m 2 ls []) := by
  obtain ⟨hX, hr, hlk, hK, hE⟩ := id C0
  have hx := hX.1
  have hb := hX.2.1
  have hown := hX.2.2.2.1
  have hts := hX.2.2.2.2
  intro f
  induction f with
  | zero =>
    intro v1 I H locs ls hq
    exact hq.elim
  | succ f hK2 =>
    intro v1 I H locs ls hq hH hl
    have hq : g_L_first_2 k0 Q (v_L_first_2 k0 Q f) v1 I := hq
    unfold g_L_first_2 at hq
    refine lv_iload_n hx hb dL_first_2 rfl (lv_at hl 1 rfl) ?_
    refine lv_bipush (v := 6) hx hb dL_first_3 (by decide) ?_
    refine lv_icmp_ge (tgt := 25) hx hb dL_first_5 (by decide) (fun hc => ?_) (fun hc => ?_)
    · have hq := hq.1 hc
      exact w_eV hX hr hlk hH hq dL_first_25
    · have hq := hq.2 hc
      refine lv_aload_n hx hb dL_first_8 rfl (lv_at hl 0 rfl) ?_
      refine lv_iload_n hx hb dL_first_9 rfl (lv_at hl 1 rfl) ?_
      refine lv_iload_n hx hb dL_first_10 rfl (lv_at hl 1 rfl) ?_
      obtain ⟨hc, hq⟩ := hq
      refine w_iast5 hX hK hH ha0 hc dL_first_11 (fun I1 H locs hI hH => ?_)
      have hq := hq I1 hI
      refine lv_aload_n hx hb dL_first_12 rfl (lv_at hl 0 rfl) ?_
      refine lv_bipush (v := 6) hx hb dL_first_13 (by decide) ?_
      refine lv_iload_n hx hb dL_first_15 rfl (lv_at hl 1 rfl) ?_
      refine lv_iadd hx hb dL_first_16 ?_
      refine lv_iconst (v := 0) hx hb dL_first_17 (by decide) ?_
      obtain ⟨hc, hq⟩ := hq
      refine w_iast5 hX hK hH ha0 hc dL_first_18 (fun I2 H locs hI hH => ?_)
      have hq := hq I2 hI
      refine lv_iinc (v := (v1 + (1 : Int32))) (lv' := [(1, .int (v1 + (1 : Int32))), (0, .ref (G.1 k0))]) hx hb dL_first_19 hl (k := 1) rfl rfl (by decide) rfl (fun ls hl => ?_)
      refine lv_goto (tgt := 2) hx hb dL_first_22 (by decide) ?_
      exact hK2 (v1 + (1 : Int32)) _ _ _ _ hq hH (lv_sub hl [1, 0] rfl)
set_option maxRecDepth 100000 in
set_option maxHeartbeats 4000000 in
theorem c_L_first {l : Launch} {D : va_G} {cs : wC4} {ad : Nat → Nat} {b : Nat} {G : wG} {k0 : Nat} (ha0 : wSh k0 = (5, 12) ∧ k0 < G.2)  (I : wI) (hp : pre_L_first k0 I) : Met l yL_first (ws_ yL_first cL_first 2 none) rm_L_first (va_Pc [.ref (G.1 k0)] (wPr D cs ad b G I)) (va_Qv (fun I' => post_L_first k0 I I') (wPo D cs b G) (fun q => b ≤ q)) 0 0 (fun q => b ≤ q) := by
  have hq := vc_L_first k0 I hp
  refine w_met (by decide) (Nat.le_of_ble_eq_true rfl) ?_
  intro p e s m below meth c hX hr hlk hK hE hH ls hl
  have C0 : wCx p m c s _ meth cL_first 2 RL none D cs ad b := ⟨hX, hr, hlk, hK, hE⟩
  have hX : CallFix p m c cL_first 2 s _ lw_all RL := hX
  have hx := hX.1
  have hb := hX.2.1
  have hown := hX.2.2.2.1
  have hts := hX.2.2.2.2
  have hl : lv_has ls 2 [(0, .ref (G.1 k0))] := hl
  unfold v_L_first at hq
  refine lv_iconst (v := 0) hx hb dL_first_0 (by decide) ?_
  refine lv_istore_n (lv' := [(1, .int (0 : Int32)), (0, .ref (G.1 k0))]) hx hb dL_first_1 rfl hl (by decide) rfl (fun ls hl => ?_)
  obtain ⟨f, hq⟩ := hq
  exact s_L_first_2 ha0 C0  f (0 : Int32) _ _ _ _ hq hH (lv_sub hl [1, 0] rfl)
abbrev rm_L_moved : Room := { frames := 0, cells := 0, slots := 0, locals := 0 }
theorem hd_L_moved : yL_moved.cls = RL ∧ yL_moved.cls ≠ "java/lang/invoke/MethodHandle" ∧ yL_moved.cls ≠ "java/lang/invoke/VarHandle" ∧ (parseMethodDescriptor yL_moved.desc).map (fun d => d.parameters.length) = some 1 := by decide +kernel
set_option maxRecDepth 100000 in
set_option maxHeartbeats 4000000 in
theorem s_L_moved_36 {k0 : Nat} {I : wI} {Q : Int32 → Prop} {K4 : Int32 → Int32 → Prop} (ha0 : wSh k0 = (5, 12) ∧ k0 < G.2) (C0 : wCx p m c s args meth cL_moved 3 RL (some .int) D cs ad b) (hK4 : ∀ (v1 : Int32) (v2 : Int32) (H : Heap) (locs : List Loc) (ls : Array Slot), K4 v1 v2 → wH D cs b G I s H locs → lv_has ls 3 [(0, .ref (G.1 k0)), (1, .int v1), (2, .int v2)] → W p l e rm_L_moved s m args below meth c H locs 0 0 (MQ below (va_Qi (fun r I' => I' = I ∧ Q r) (wPo D cs b G) (fun q => b ≤ q)) args s 0 0 (fun q => b ≤ q)) (F0 m 4 ls [])) : ∀ (v2 : Int32) (t0 : Int32) (t1 : Int32) (H : Heap) (locs : List Loc) (ls : Array Slot), v_L_moved_36 k0 I Q K4 v2 t0 t1 → wH D cs b G I s H locs → lv_has ls 3 [(0, .ref (G.1 k0)), (2, .int v2)] → W p l e rm_L_moved s m args below meth c H locs 0 0 (MQ below (va_Qi (fun r I' => I' = I ∧ Q r) (wPo D cs b G) (fun q => b ≤ q)) args s 0 0 (fun q => b ≤ q)) (F0 m 36 ls [.int t0, .int t1]) := by
  obtain ⟨hX, hr, hlk, hK, hE⟩ := id C0
  have hx := hX.1
  have hb := hX.2.1
  have hown := hX.2.2.2.1
  have hts := hX.2.2.2.2
  intro v2 t0 t1 H locs ls hq hH hl
  unfold v_L_moved_36 at hq
  refine lv_ior hx hb dL_moved_36 ?_
  refine lv_istore_n (lv' := [(1, .int (t1 ||| t0)), (0, .ref (G.1 k0)), (2, .int v2)]) hx hb dL_moved_37 rfl hl (by decide) rfl (fun ls hl => ?_)
  refine lv_iinc (v := (v2 + (1 : Int32))) (lv' := [(2, .int (v2 + (1 : Int32))), (1, .int (t1 ||| t0)), (0, .ref (G.1 k0))]) hx hb dL_moved_38 hl (k := 2) rfl rfl (by decide) rfl (fun ls hl => ?_)
  refine lv_goto (tgt := 4) hx hb dL_moved_41 (by decide) ?_
  exact hK4 (t1 ||| t0) (v2 + (1 : Int32)) _ _ _ hq hH (lv_sub hl [2, 1, 0] rfl)
set_option maxRecDepth 100000 in
set_option maxHeartbeats 4000000 in
theorem s_L_moved_27 {k0 : Nat} {I : wI} {Q : Int32 → Prop} {K4 : Int32 → Int32 → Prop} (ha0 : wSh k0 = (5, 12) ∧ k0 < G.2) (C0 : wCx p m c s args meth cL_moved 3 RL (some .int) D cs ad b) (hK4 : ∀ (v1 : Int32) (v2 : Int32) (H : Heap) (locs : List Loc) (ls : Array Slot), K4 v1 v2 → wH D cs b G I s H locs → lv_has ls 3 [(0, .ref (G.1 k0)), (1, .int v1), (2, .int v2)] → W p l e rm_L_moved s m args below meth c H locs 0 0 (MQ below (va_Qi (fun r I' => I' = I ∧ Q r) (wPo D cs b G) (fun q => b ≤ q)) args s 0 0 (fun q => b ≤ q)) (F0 m 4 ls [])) : ∀ (v2 : Int32) (t0 : Int32) (H : Heap) (locs : List Loc) (ls : Array Slot), v_L_moved_27 k0 I Q K4 v2 t0 → wH D cs b G I s H locs → lv_has ls 3 [(0, .ref (G.1 k0)), (2, .int v2)] → W p l e rm_L_moved s m args below meth c H locs 0 0 (MQ below (va_Qi (fun r I' => I' = I ∧ Q r) (wPo D cs b G) (fun q => b ≤ q)) args s 0 0 (fun q => b ≤ q)) (F0 m 27 ls [.int t0]) := by
  obtain ⟨hX, hr, hlk, hK, hE⟩ := id C0
  have hx := hX.1
  have hb := hX.2.1
  have hown := hX.2.2.2.1
  have hts := hX.2.2.2.2
  intro v2 t0 H locs ls hq hH hl
  unfold v_L_moved_27 at hq
  refine lv_iconst (v := 1) hx hb dL_moved_27 (by decide) ?_
  refine lv_aload_n hx hb dL_moved_28 rfl (lv_at hl 0 rfl) ?_
  refine lv_iload_n hx hb dL_moved_29 rfl (lv_at hl 1 rfl) ?_
  obtain ⟨hc, hq⟩ := hq
  refine w_iald5 hX hK hH ha0 hc dL_moved_30 ?_
  refine lv_ishl hx hb dL_moved_31 ?_
  refine lv_goto (tgt := 36) hx hb dL_moved_32 (by decide) ?_
  exact s_L_moved_36 ha0 C0 hK4 v2 ((1 : Int32) <<< ((I k0 (v2).toNatClampNeg) &&& 31)) t0 _ _ _ hq hH (lv_sub hl [0, 1] rfl)
set_option maxRecDepth 100000 in
set_option maxHeartbeats 4000000 in
theorem s_L_moved_4 {k0 : Nat} {I : wI} {Q : Int32 → Prop} (ha0 : wSh k0 = (5, 12) ∧ k0 < G.2) (C0 : wCx p m c s args meth cL_moved 3 RL (some .int) D cs ad b) : ∀ (f : Nat) (v1 : Int32) (v2 : Int32) (H : Heap) (locs : List Loc) (ls : Array Slot), v_L_moved_4 k0 I Q f v1 v2 → wH D cs b G I s H locs → lv_has ls 3 [(0, .ref (G.1 k0)), (1, .int v1), (2, .int v2)] → W p l e rm_L_moved s m args below meth c H locs 0 0 (MQ below (va_Qi (fun r I' => I' = I ∧ Q r) (wPo D cs b G) (fun q => b ≤ q)) args s 0 0 (fun q => b ≤ q)) (F0 m 4 ls []) := by
  obtain ⟨hX, hr, hlk, hK, hE⟩ := id C0
  have hx := hX.1
  have hb := hX.2.1
  have hown := hX.2.2.2.1
  have hts := hX.2.2.2.2
  intro f
  induction f with
  | zero =>
    intro v1 v2 H locs ls hq
    exact hq.elim
  | succ f hK4 =>
    intro v1 v2 H locs ls hq hH hl
    have hq : g_L_moved_4 k0 I Q (v_L_moved_4 k0 I Q f) v1 v2 := hq
    unfold g_L_moved_4 at hq
    refine lv_iload_n hx hb dL_moved_4 rfl (lv_at hl 2 rfl) ?_
    refine lv_bipush (v := 6) hx hb dL_moved_5 (by decide) ?_
    refine lv_icmp_ge (tgt := 44) hx hb dL_moved_7 (by decide) (fun hc => ?_) (fun hc => ?_)
    · have hq := hq.1 hc
      refine lv_iload_n hx hb dL_moved_44 rfl (lv_at hl 1 rfl) ?_
      exact w_eI hX hr hlk hH ⟨rfl, hq⟩ dL_moved_45
    · have hq := hq.2 hc
      refine lv_iload_n hx hb dL_moved_10 rfl (lv_at hl 1 rfl) ?_
      refine lv_aload_n hx hb dL_moved_11 rfl (lv_at hl 0 rfl) ?_
      refine lv_iload_n hx hb dL_moved_12 rfl (lv_at hl 2 rfl) ?_
      obtain ⟨hc, hq⟩ := hq
      refine w_iald5 hX hK hH ha0 hc dL_moved_13 ?_
      refine lv_iload_n hx hb dL_moved_14 rfl (lv_at hl 2 rfl) ?_
      refine lv_icmp_ne (tgt := 27) hx hb dL_moved_15 (by decide) (fun hc => ?_) (fun hc => ?_)
      · have hq := hq.1 hc
        exact s_L_moved_27 ha0 C0 hK4 v2 v1 _ _ _ hq hH (lv_sub hl [0, 2] rfl)
      · have hq := hq.2 hc
        refine lv_aload_n hx hb dL_moved_18 rfl (lv_at hl 0 rfl) ?_
        refine lv_bipush (v := 6) hx hb dL_moved_19 (by decide) ?_
        refine lv_iload_n hx hb dL_moved_21 rfl (lv_at hl 2 rfl) ?_
        refine lv_iadd hx hb dL_moved_22 ?_
        obtain ⟨hc, hq⟩ := hq
        refine w_iald5 hX hK hH ha0 hc dL_moved_23 ?_
        refine lv_if_eq (tgt := 35) hx hb dL_moved_24 (by decide) (fun hc => ?_) (fun hc => ?_)
        · have hq := hq.1 hc
          refine lv_iconst (v := 0) hx hb dL_moved_35 (by decide) ?_
          exact s_L_moved_36 ha0 C0 hK4 v2 (0 : Int32) v1 _ _ _ hq hH (lv_sub hl [0, 2] rfl)
        · have hq := hq.2 hc
          exact s_L_moved_27 ha0 C0 hK4 v2 v1 _ _ _ hq hH (lv_sub hl [0, 2] rfl)
set_option maxRecDepth 100000 in
set_option maxHeartbeats 4000000 in
theorem c_L_moved {l : Launch} {D : va_G} {cs : wC4} {ad : Nat → Nat} {b : Nat} {G : wG} {k0 : Nat} (ha0 : wSh k0 = (5, 12) ∧ k0 < G.2)  (I : wI) (hp : pre_L_moved k0 I) : Met l yL_moved (ws_ yL_moved cL_moved 3 (some .int)) rm_L_moved (va_Pc [.ref (G.1 k0)] (wPr D cs ad b G I)) (va_Qi (fun r I' => I' = I ∧ post_L_moved k0 I r) (wPo D cs b G) (fun q => b ≤ q)) 0 0 (fun q => b ≤ q) := by
  have hq := vc_L_moved k0 I hp
  refine w_met (by decide) (Nat.le_of_ble_eq_true rfl) ?_
  intro p e s m below meth c hX hr hlk hK hE hH ls hl
  have C0 : wCx p m c s _ meth cL_moved 3 RL (some .int) D cs ad b := ⟨hX, hr, hlk, hK, hE⟩
  have hX : CallFix p m c cL_moved 3 s _ lw_all RL := hX
  have hx := hX.1
  have hb := hX.2.1
  have hown := hX.2.2.2.1
  have hts := hX.2.2.2.2
  have hl : lv_has ls 3 [(0, .ref (G.1 k0))] := hl
  unfold v_L_moved at hq
  refine lv_iconst (v := 0) hx hb dL_moved_0 (by decide) ?_
  refine lv_istore_n (lv' := [(1, .int (0 : Int32)), (0, .ref (G.1 k0))]) hx hb dL_moved_1 rfl hl (by decide) rfl (fun ls hl => ?_)
  refine lv_iconst (v := 0) hx hb dL_moved_2 (by decide) ?_
  refine lv_istore_n (lv' := [(2, .int (0 : Int32)), (1, .int (0 : Int32)), (0, .ref (G.1 k0))]) hx hb dL_moved_3 rfl hl (by decide) rfl (fun ls hl => ?_)
  obtain ⟨f, hq⟩ := hq
  exact s_L_moved_4 ha0 C0  f (0 : Int32) (0 : Int32) _ _ _ hq hH (lv_sub hl [2, 1, 0] rfl)
abbrev rm_L_right : Room := { frames := 0, cells := 0, slots := 0, locals := 0 }
theorem hd_L_right : yL_right.cls = RL ∧ yL_right.cls ≠ "java/lang/invoke/MethodHandle" ∧ yL_right.cls ≠ "java/lang/invoke/VarHandle" ∧ (parseMethodDescriptor yL_right.desc).map (fun d => d.parameters.length) = some 3 := by decide +kernel
set_option maxRecDepth 100000 in
set_option maxHeartbeats 4000000 in
theorem s_L_right_53 {k0 : Nat} {I : wI} {Q : Int32 → Prop} {K5 : Int32 → Int32 → Prop} (ha0 : wSh k0 = (5, 12) ∧ k0 < G.2) (C0 : wCx p m c s args meth cL_right 5 RL (some .int) D cs ad b) (hK5 : ∀ (v3 : Int32) (v4 : Int32) (H : Heap) (locs : List Loc) (ls : Array Slot), K5 v3 v4 → wH D cs b G I s H locs → lv_has ls 5 [(0, .ref (G.1 k0)), (1, .ref (G.1 113)), (2, .ref (G.1 114)), (3, .int v3), (4, .int v4)] → W p l e rm_L_right s m args below meth c H locs 0 0 (MQ below (va_Qi (fun r I' => I' = I ∧ Q r) (wPo D cs b G) (fun q => b ≤ q)) args s 0 0 (fun q => b ≤ q)) (F0 m 5 ls [])) : ∀ (v4 : Int32) (t0 : Int32) (t1 : Int32) (H : Heap) (locs : List Loc) (ls : Array Slot), v_L_right_53 k0 I Q K5 v4 t0 t1 → wH D cs b G I s H locs → lv_has ls 5 [(0, .ref (G.1 k0)), (1, .ref (G.1 113)), (2, .ref (G.1 114)), (4, .int v4)] → W p l e rm_L_right s m args below meth c H locs 0 0 (MQ below (va_Qi (fun r I' => I' = I ∧ Q r) (wPo D cs b G) (fun q => b ≤ q)) args s 0 0 (fun q => b ≤ q)) (F0 m 53 ls [.int t0, .int t1]) := by
  obtain ⟨hX, hr, hlk, hK, hE⟩ := id C0
  have hx := hX.1
  have hb := hX.2.1
  have hown := hX.2.2.2.1
  have hts := hX.2.2.2.2
  intro v4 t0 t1 H locs ls hq hH hl
  unfold v_L_right_53 at hq
  refine lv_iadd hx hb dL_right_53 ?_
  refine lv_istore_n (lv' := [(3, .int (t1 + t0)), (0, .ref (G.1 k0)), (1, .ref (G.1 113)), (2, .ref (G.1 114)), (4, .int v4)]) hx hb dL_right_54 rfl hl (by decide) rfl (fun ls hl => ?_)
  refine lv_iinc (v := (v4 + (1 : Int32))) (lv' := [(4, .int (v4 + (1 : Int32))), (3, .int (t1 + t0)), (0, .ref (G.1 k0)), (1, .ref (G.1 113)), (2, .ref (G.1 114))]) hx hb dL_right_55 hl (k := 4) rfl rfl (by decide) rfl (fun ls hl => ?_)
  refine lv_goto (tgt := 5) hx hb dL_right_58 (by decide) ?_
  exact hK5 (t1 + t0) (v4 + (1 : Int32)) _ _ _ hq hH (lv_sub hl [2, 3, 4, 1, 0] rfl)
set_option maxRecDepth 100000 in
set_option maxHeartbeats 4000000 in
theorem s_L_right_52 {k0 : Nat} {I : wI} {Q : Int32 → Prop} {K5 : Int32 → Int32 → Prop} (ha0 : wSh k0 = (5, 12) ∧ k0 < G.2) (C0 : wCx p m c s args meth cL_right 5 RL (some .int) D cs ad b) (hK5 : ∀ (v3 : Int32) (v4 : Int32) (H : Heap) (locs : List Loc) (ls : Array Slot), K5 v3 v4 → wH D cs b G I s H locs → lv_has ls 5 [(0, .ref (G.1 k0)), (1, .ref (G.1 113)), (2, .ref (G.1 114)), (3, .int v3), (4, .int v4)] → W p l e rm_L_right s m args below meth c H locs 0 0 (MQ below (va_Qi (fun r I' => I' = I ∧ Q r) (wPo D cs b G) (fun q => b ≤ q)) args s 0 0 (fun q => b ≤ q)) (F0 m 5 ls [])) : ∀ (v4 : Int32) (t0 : Int32) (H : Heap) (locs : List Loc) (ls : Array Slot), v_L_right_52 k0 I Q K5 v4 t0 → wH D cs b G I s H locs → lv_has ls 5 [(0, .ref (G.1 k0)), (1, .ref (G.1 113)), (2, .ref (G.1 114)), (4, .int v4)] → W p l e rm_L_right s m args below meth c H locs 0 0 (MQ below (va_Qi (fun r I' => I' = I ∧ Q r) (wPo D cs b G) (fun q => b ≤ q)) args s 0 0 (fun q => b ≤ q)) (F0 m 52 ls [.int t0]) := by
  obtain ⟨hX, hr, hlk, hK, hE⟩ := id C0
  have hx := hX.1
  have hb := hX.2.1
  have hown := hX.2.2.2.1
  have hts := hX.2.2.2.2
  intro v4 t0 H locs ls hq hH hl
  unfold v_L_right_52 at hq
  refine lv_iconst (v := 0) hx hb dL_right_52 (by decide) ?_
  exact s_L_right_53 ha0 C0 hK5 v4 (0 : Int32) t0 _ _ _ hq hH (lv_sub hl [0, 1, 2, 3] rfl)
set_option maxRecDepth 100000 in
set_option maxHeartbeats 4000000 in
theorem s_L_right_5 {k0 : Nat} {I : wI} {Q : Int32 → Prop} (ha0 : wSh k0 = (5, 12) ∧ k0 < G.2) (C0 : wCx p m c s args meth cL_right 5 RL (some .int) D cs ad b) : ∀ (f : Nat) (v3 : Int32) (v4 : Int32) (H : Heap) (locs : List Loc) (ls : Array Slot), v_L_right_5 k0 I Q f v3 v4 → wH D cs b G I s H locs → lv_has ls 5 [(0, .ref (G.1 k0)), (1, .ref (G.1 113)), (2, .ref (G.1 114)), (3, .int v3), (4, .int v4)] → W p l e rm_L_right s m args below meth c H locs 0 0 (MQ below (va_Qi (fun r I' => I' = I ∧ Q r) (wPo D cs b G) (fun q => b ≤ q)) args s 0 0 (fun q => b ≤ q)) (F0 m 5 ls []) := by
  obtain ⟨hX, hr, hlk, hK, hE⟩ := id C0
  have hx := hX.1
  have hb := hX.2.1
  have hown := hX.2.2.2.1
  have hts := hX.2.2.2.2
  intro f
  induction f with
  | zero =>
    intro v3 v4 H locs ls hq
    exact hq.elim
  | succ f hK5 =>
    intro v3 v4 H locs ls hq hH hl
    have hq : g_L_right_5 k0 I Q (v_L_right_5 k0 I Q f) v3 v4 := hq
    unfold g_L_right_5 at hq
    refine lv_iload hx hb dL_right_5 (lv_at hl 4 rfl) ?_
    refine lv_bipush (v := 6) hx hb dL_right_7 (by decide) ?_
    refine lv_icmp_ge (tgt := 61) hx hb dL_right_9 (by decide) (fun hc => ?_) (fun hc => ?_)
    · have hq := hq.1 hc
      refine lv_iload_n hx hb dL_right_61 rfl (lv_at hl 3 rfl) ?_
      exact w_eI hX hr hlk hH ⟨rfl, hq⟩ dL_right_62
    · have hq := hq.2 hc
      refine lv_iload_n hx hb dL_right_12 rfl (lv_at hl 3 rfl) ?_
      refine lv_aload_n hx hb dL_right_13 rfl (lv_at hl 1 rfl) ?_
      refine lv_iconst (v := 2) hx hb dL_right_14 (by decide) ?_
      obtain ⟨hc, hq⟩ := hq
      refine w_iald5 hX hK hH (la113 hH.2.2.1) hc dL_right_15 ?_
      refine lv_iconst (v := 1) hx hb dL_right_16 (by decide) ?_
      refine lv_icmp_ne (tgt := 52) hx hb dL_right_17 (by decide) (fun hc => ?_) (fun hc => ?_)
      · have hq := hq.1 hc
        exact s_L_right_52 ha0 C0 hK5 v4 v3 _ _ _ hq hH (lv_sub hl [0, 1, 2, 4] rfl)
      · have hq := hq.2 hc
        refine lv_aload_n hx hb dL_right_20 rfl (lv_at hl 0 rfl) ?_
        refine lv_iload hx hb dL_right_21 (lv_at hl 4 rfl) ?_
        obtain ⟨hc, hq⟩ := hq
        refine w_iald5 hX hK hH ha0 hc dL_right_23 ?_
        refine lv_aload_n hx hb dL_right_24 rfl (lv_at hl 2 rfl) ?_
        refine lv_iload hx hb dL_right_25 (lv_at hl 4 rfl) ?_
        obtain ⟨hc, hq⟩ := hq
        refine w_iald5 hX hK hH (la114 hH.2.2.1) hc dL_right_27 ?_
        refine lv_icmp_ne (tgt := 52) hx hb dL_right_28 (by decide) (fun hc => ?_) (fun hc => ?_)
        · have hq := hq.1 hc
          exact s_L_right_52 ha0 C0 hK5 v4 v3 _ _ _ hq hH (lv_sub hl [0, 1, 2, 4] rfl)
        · have hq := hq.2 hc
          refine lv_aload_n hx hb dL_right_31 rfl (lv_at hl 0 rfl) ?_
          refine lv_bipush (v := 6) hx hb dL_right_32 (by decide) ?_
          refine lv_iload hx hb dL_right_34 (lv_at hl 4 rfl) ?_
          refine lv_iadd hx hb dL_right_36 ?_
          obtain ⟨hc, hq⟩ := hq
          refine w_iald5 hX hK hH ha0 hc dL_right_37 ?_
          refine lv_aload_n hx hb dL_right_38 rfl (lv_at hl 2 rfl) ?_
          refine lv_bipush (v := 6) hx hb dL_right_39 (by decide) ?_
          refine lv_iload hx hb dL_right_41 (lv_at hl 4 rfl) ?_
          refine lv_iadd hx hb dL_right_43 ?_
          obtain ⟨hc, hq⟩ := hq
          refine w_iald5 hX hK hH (la114 hH.2.2.1) hc dL_right_44 ?_
          refine lv_icmp_ne (tgt := 52) hx hb dL_right_45 (by decide) (fun hc => ?_) (fun hc => ?_)
          · have hq := hq.1 hc
            exact s_L_right_52 ha0 C0 hK5 v4 v3 _ _ _ hq hH (lv_sub hl [0, 1, 2, 4] rfl)
          · have hq := hq.2 hc
            refine lv_iconst (v := 1) hx hb dL_right_48 (by decide) ?_
            refine lv_goto (tgt := 53) hx hb dL_right_49 (by decide) ?_
            exact s_L_right_53 ha0 C0 hK5 v4 (1 : Int32) v3 _ _ _ hq hH (lv_sub hl [0, 1, 2, 4] rfl)
set_option maxRecDepth 100000 in
set_option maxHeartbeats 4000000 in
theorem c_L_right {l : Launch} {D : va_G} {cs : wC4} {ad : Nat → Nat} {b : Nat} {G : wG} {k0 : Nat} (ha0 : wSh k0 = (5, 12) ∧ k0 < G.2)  (I : wI) (hp : pre_L_right k0 I) : Met l yL_right (ws_ yL_right cL_right 5 (some .int)) rm_L_right (va_Pc [.ref (G.1 k0), .ref (G.1 113), .ref (G.1 114)] (wPr D cs ad b G I)) (va_Qi (fun r I' => I' = I ∧ post_L_right k0 I r) (wPo D cs b G) (fun q => b ≤ q)) 0 0 (fun q => b ≤ q) := by
  have hq := vc_L_right k0 I hp
  refine w_met (by decide) (Nat.le_of_ble_eq_true rfl) ?_
  intro p e s m below meth c hX hr hlk hK hE hH ls hl
  have C0 : wCx p m c s _ meth cL_right 5 RL (some .int) D cs ad b := ⟨hX, hr, hlk, hK, hE⟩
  have hX : CallFix p m c cL_right 5 s _ lw_all RL := hX
  have hx := hX.1
  have hb := hX.2.1
  have hown := hX.2.2.2.1
  have hts := hX.2.2.2.2
  have hl : lv_has ls 5 [(0, .ref (G.1 k0)), (1, .ref (G.1 113)), (2, .ref (G.1 114))] := hl
  unfold v_L_right at hq
  refine lv_iconst (v := 0) hx hb dL_right_0 (by decide) ?_
  refine lv_istore_n (lv' := [(3, .int (0 : Int32)), (0, .ref (G.1 k0)), (1, .ref (G.1 113)), (2, .ref (G.1 114))]) hx hb dL_right_1 rfl hl (by decide) rfl (fun ls hl => ?_)
  refine lv_iconst (v := 0) hx hb dL_right_2 (by decide) ?_
  refine lv_istore (lv' := [(4, .int (0 : Int32)), (3, .int (0 : Int32)), (0, .ref (G.1 k0)), (1, .ref (G.1 113)), (2, .ref (G.1 114))]) hx hb dL_right_3 hl (by decide) rfl (fun ls hl => ?_)
  obtain ⟨f, hq⟩ := hq
  exact s_L_right_5 ha0 C0  f (0 : Int32) (0 : Int32) _ _ _ hq hH (lv_sub hl [2, 3, 4, 1, 0] rfl)
abbrev rm_L_ones : Room := { frames := 0, cells := 0, slots := 0, locals := 0 }
theorem hd_L_ones : yL_ones.cls = RL ∧ yL_ones.cls ≠ "java/lang/invoke/MethodHandle" ∧ yL_ones.cls ≠ "java/lang/invoke/VarHandle" ∧ (parseMethodDescriptor yL_ones.desc).map (fun d => d.parameters.length) = some 1 := by decide +kernel
set_option maxRecDepth 100000 in
set_option maxHeartbeats 4000000 in
theorem s_L_ones_4 {x0 : Int32} {I : wI} {Q : Int32 → Prop} (C0 : wCx p m c s args meth cL_ones 3 RL (some .int) D cs ad b) : ∀ (f : Nat) (v1 : Int32) (v2 : Int32) (H : Heap) (locs : List Loc) (ls : Array Slot), v_L_ones_4 x0 I Q f v1 v2 → wH D cs b G I s H locs → lv_has ls 3 [(1, .int v1), (2, .int v2)] → W p l e rm_L_ones s m args below meth c H locs 0 0 (MQ below (va_Qi (fun r I' => I' = I ∧ Q r) (wPo D cs b G) (fun q => b ≤ q)) args s 0 0 (fun q => b ≤ q)) (F0 m 4 ls []) := by
  obtain ⟨hX, hr, hlk, hK, hE⟩ := id C0
  have hx := hX.1
  have hb := hX.2.1
  have hown := hX.2.2.2.1
  have hts := hX.2.2.2.2
  intro f
  induction f with
  | zero =>
    intro v1 v2 H locs ls hq
    exact hq.elim
  | succ f hK4 =>
    intro v1 v2 H locs ls hq hH hl
    have hq : g_L_ones_4 x0 I Q (v_L_ones_4 x0 I Q f) v1 v2 := hq
    unfold g_L_ones_4 at hq
    refine lv_iload_n hx hb dL_ones_4 rfl (lv_at hl 1 rfl) ?_
    refine lv_if_le (tgt := 20) hx hb dL_ones_5 (by decide) (fun hc => ?_) (fun hc => ?_)
    · have hq := hq.1 hc
      refine lv_iload_n hx hb dL_ones_20 rfl (lv_at hl 0 rfl) ?_
      exact w_eI hX hr hlk hH ⟨rfl, hq⟩ dL_ones_21
    · have hq := hq.2 hc
      refine lv_iinc (v := (v1 + (1 : Int32))) (lv' := [(1, .int (v1 + (1 : Int32))), (2, .int v2)]) hx hb dL_ones_8 hl (k := 0) rfl rfl (by decide) rfl (fun ls hl => ?_)
      refine lv_iload_n hx hb dL_ones_11 rfl (lv_at hl 1 rfl) ?_
      refine lv_iload_n hx hb dL_ones_12 rfl (lv_at hl 1 rfl) ?_
      refine lv_iconst (v := 1) hx hb dL_ones_13 (by decide) ?_
      refine lv_isub hx hb dL_ones_14 ?_
      refine lv_iand hx hb dL_ones_15 ?_
      refine lv_istore_n (lv' := [(2, .int (v2 &&& (v2 - (1 : Int32)))), (1, .int (v1 + (1 : Int32)))]) hx hb dL_ones_16 rfl hl (by decide) rfl (fun ls hl => ?_)
      refine lv_goto (tgt := 4) hx hb dL_ones_17 (by decide) ?_
      exact hK4 (v1 + (1 : Int32)) (v2 &&& (v2 - (1 : Int32))) _ _ _ hq hH (lv_sub hl [1, 0] rfl)
set_option maxRecDepth 100000 in
set_option maxHeartbeats 4000000 in
theorem c_L_ones {l : Launch} {D : va_G} {cs : wC4} {ad : Nat → Nat} {b : Nat} {G : wG} (x0 : Int32) (I : wI) (hp : pre_L_ones x0 I) : Met l yL_ones (ws_ yL_ones cL_ones 3 (some .int)) rm_L_ones (va_Pc [.int x0] (wPr D cs ad b G I)) (va_Qi (fun r I' => I' = I ∧ post_L_ones x0 I r) (wPo D cs b G) (fun q => b ≤ q)) 0 0 (fun q => b ≤ q) := by
  have hq := vc_L_ones x0 I hp
  refine w_met (by decide) (Nat.le_of_ble_eq_true rfl) ?_
  intro p e s m below meth c hX hr hlk hK hE hH ls hl
  have C0 : wCx p m c s _ meth cL_ones 3 RL (some .int) D cs ad b := ⟨hX, hr, hlk, hK, hE⟩
  have hX : CallFix p m c cL_ones 3 s _ lw_all RL := hX
  have hx := hX.1
  have hb := hX.2.1
  have hown := hX.2.2.2.1
  have hts := hX.2.2.2.2
  have hl : lv_has ls 3 [(0, .int x0)] := hl
  unfold v_L_ones at hq
  refine lv_iconst (v := 0) hx hb dL_ones_0 (by decide) ?_
  refine lv_istore_n (lv' := [(1, .int (0 : Int32)), (0, .int x0)]) hx hb dL_ones_1 rfl hl (by decide) rfl (fun ls hl => ?_)
  refine lv_iload_n hx hb dL_ones_2 rfl (lv_at hl 1 rfl) ?_
  refine lv_istore_n (lv' := [(2, .int x0), (1, .int (0 : Int32)), (0, .int x0)]) hx hb dL_ones_3 rfl hl (by decide) rfl (fun ls hl => ?_)
  obtain ⟨f, hq⟩ := hq
  exact s_L_ones_4  C0  f (0 : Int32) x0 _ _ _ hq hH (lv_sub hl [1, 0] rfl)
abbrev rm_L_copy : Room := { frames := 0, cells := 0, slots := 0, locals := 0 }
theorem hd_L_copy : yL_copy.cls = RL ∧ yL_copy.cls ≠ "java/lang/invoke/MethodHandle" ∧ yL_copy.cls ≠ "java/lang/invoke/VarHandle" ∧ (parseMethodDescriptor yL_copy.desc).map (fun d => d.parameters.length) = some 2 := by decide +kernel
set_option maxRecDepth 100000 in
set_option maxHeartbeats 4000000 in
theorem s_L_copy_2 {k0 : Nat} {k1 : Nat} {Q : wI → Prop} (ha0 : wSh k0 = (5, 12) ∧ k0 < G.2) (ha1 : wSh k1 = (5, 12) ∧ k1 < G.2) (C0 : wCx p m c s args meth cL_copy 3 RL none D cs ad b) : ∀ (f : Nat) (v2 : Int32) (I : wI) (H : Heap) (locs : List Loc) (ls : Array Slot), v_L_copy_2 k0 k1 Q f v2 I → wH D cs b G I s H locs → lv_has ls 3 [(0, .ref (G.1 k0)), (1, .ref (G.1 k1)), (2, .int v2)] → W p l e rm_L_copy s m args below meth c H locs 0 0 (MQ below (va_Qv (Q) (wPo D cs b G) (fun q => b ≤ q)) args s 0 0 (fun q => b ≤ q)) (F0 m 2 ls []) := by
  obtain ⟨hX, hr, hlk, hK, hE⟩ := id C0
  have hx := hX.1
  have hb := hX.2.1
  have hown := hX.2.2.2.1
  have hts := hX.2.2.2.2
  intro f
  induction f with
  | zero =>
    intro v2 I H locs ls hq
    exact hq.elim
  | succ f hK2 =>
    intro v2 I H locs ls hq hH hl
    have hq : g_L_copy_2 k0 k1 Q (v_L_copy_2 k0 k1 Q f) v2 I := hq
    unfold g_L_copy_2 at hq
    refine lv_iload_n hx hb dL_copy_2 rfl (lv_at hl 2 rfl) ?_
    refine lv_aload_n hx hb dL_copy_3 rfl (lv_at hl 0 rfl) ?_
    refine w_alen5 (v := 12) hX hK hH ha0 rfl dL_copy_4 ?_
    refine lv_icmp_ge (tgt := 20) hx hb dL_copy_5 (by decide) (fun hc => ?_) (fun hc => ?_)
    · have hq := hq.1 hc
      exact w_eV hX hr hlk hH hq dL_copy_20
    · have hq := hq.2 hc
      refine lv_aload_n hx hb dL_copy_8 rfl (lv_at hl 1 rfl) ?_
      refine lv_iload_n hx hb dL_copy_9 rfl (lv_at hl 2 rfl) ?_
      refine lv_aload_n hx hb dL_copy_10 rfl (lv_at hl 0 rfl) ?_
      refine lv_iload_n hx hb dL_copy_11 rfl (lv_at hl 2 rfl) ?_
      obtain ⟨hc, hq⟩ := hq
      refine w_iald5 hX hK hH ha0 hc dL_copy_12 ?_
      obtain ⟨hc, hq⟩ := hq
      refine w_iast5 hX hK hH ha1 hc dL_copy_13 (fun I1 H locs hI hH => ?_)
      have hq := hq I1 hI
      refine lv_iinc (v := (v2 + (1 : Int32))) (lv' := [(2, .int (v2 + (1 : Int32))), (0, .ref (G.1 k0)), (1, .ref (G.1 k1))]) hx hb dL_copy_14 hl (k := 2) rfl rfl (by decide) rfl (fun ls hl => ?_)
      refine lv_goto (tgt := 2) hx hb dL_copy_17 (by decide) ?_
      exact hK2 (v2 + (1 : Int32)) _ _ _ _ hq hH (lv_sub hl [1, 2, 0] rfl)
set_option maxRecDepth 100000 in
set_option maxHeartbeats 4000000 in
theorem c_L_copy {l : Launch} {D : va_G} {cs : wC4} {ad : Nat → Nat} {b : Nat} {G : wG} {k0 : Nat} {k1 : Nat} (ha0 : wSh k0 = (5, 12) ∧ k0 < G.2) (ha1 : wSh k1 = (5, 12) ∧ k1 < G.2)  (I : wI) (hp : pre_L_copy k0 k1 I) : Met l yL_copy (ws_ yL_copy cL_copy 3 none) rm_L_copy (va_Pc [.ref (G.1 k0), .ref (G.1 k1)] (wPr D cs ad b G I)) (va_Qv (fun I' => post_L_copy k0 k1 I I') (wPo D cs b G) (fun q => b ≤ q)) 0 0 (fun q => b ≤ q) := by
  have hq := vc_L_copy k0 k1 I hp
  refine w_met (by decide) (Nat.le_of_ble_eq_true rfl) ?_
  intro p e s m below meth c hX hr hlk hK hE hH ls hl
  have C0 : wCx p m c s _ meth cL_copy 3 RL none D cs ad b := ⟨hX, hr, hlk, hK, hE⟩
  have hX : CallFix p m c cL_copy 3 s _ lw_all RL := hX
  have hx := hX.1
  have hb := hX.2.1
  have hown := hX.2.2.2.1
  have hts := hX.2.2.2.2
  have hl : lv_has ls 3 [(0, .ref (G.1 k0)), (1, .ref (G.1 k1))] := hl
  unfold v_L_copy at hq
  refine lv_iconst (v := 0) hx hb dL_copy_0 (by decide) ?_
  refine lv_istore_n (lv' := [(2, .int (0 : Int32)), (0, .ref (G.1 k0)), (1, .ref (G.1 k1))]) hx hb dL_copy_1 rfl hl (by decide) rfl (fun ls hl => ?_)
  obtain ⟨f, hq⟩ := hq
  exact s_L_copy_2 ha0 ha1 C0  f (0 : Int32) _ _ _ _ hq hH (lv_sub hl [1, 2, 0] rfl)
end
