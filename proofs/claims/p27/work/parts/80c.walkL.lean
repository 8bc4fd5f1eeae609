section
variable {p : Program} {l : Launch} {e : Env} {s : State} {m : MethodId} {args : Array Value} {below : List Frame} {meth : Method} {c : Code} {D : va_G} {cs : wC4} {ad : Nat → Nat} {b : Nat} {G B : wG}
abbrev rm_L_isSo : Room := { frames := 10, cells := 0, slots := 0, locals := 162 }
theorem hd_L_isSo : yL_isSo.cls = RL ∧ yL_isSo.cls ≠ "java/lang/invoke/MethodHandle" ∧ yL_isSo.cls ≠ "java/lang/invoke/VarHandle" ∧ (parseMethodDescriptor yL_isSo.desc).map (fun d => d.parameters.length) = some 5 := by decide +kernel
set_option maxRecDepth 100000 in
set_option maxHeartbeats 4000000 in
theorem s_L_isSo_396 {I : wI} {Q : Int32 → Prop} (C0 : wCx p m c s args meth cL_isSo 13 RL (some .boolean) D cs ad b) : ∀ (t0 : Int32) (H : Heap) (locs : List Loc) (ls : Array Slot), v_L_isSo_396 I Q t0 → wH D cs b G I s H locs → lv_has ls 13 [] → W p l e rm_L_isSo s m args below meth c H locs 0 0 (MQ below (va_Qi (fun r I' => I' = I ∧ Q r) (wPo D cs b G) (fun q => b ≤ q)) args s 0 0 (fun q => b ≤ q)) (F0 m 396 ls [.int t0]) := by
  obtain ⟨hX, hr, hlk, hK, hE⟩ := id C0
  have hx := hX.1
  have hb := hX.2.1
  have hown := hX.2.2.2.1
  have hts := hX.2.2.2.2
  intro t0 H locs ls hq hH hl
  unfold v_L_isSo_396 at hq
  obtain ⟨hz, hq⟩ := hq
  exact w_eZ hz hX hr hlk hH ⟨rfl, hq⟩ dL_isSo_396
set_option maxRecDepth 100000 in
set_option maxHeartbeats 4000000 in
theorem s_L_isSo_395 {I : wI} {Q : Int32 → Prop} (C0 : wCx p m c s args meth cL_isSo 13 RL (some .boolean) D cs ad b) : ∀  (H : Heap) (locs : List Loc) (ls : Array Slot), v_L_isSo_395 I Q  → wH D cs b G I s H locs → lv_has ls 13 [] → W p l e rm_L_isSo s m args below meth c H locs 0 0 (MQ below (va_Qi (fun r I' => I' = I ∧ Q r) (wPo D cs b G) (fun q => b ≤ q)) args s 0 0 (fun q => b ≤ q)) (F0 m 395 ls []) := by
  obtain ⟨hX, hr, hlk, hK, hE⟩ := id C0
  have hx := hX.1
  have hb := hX.2.1
  have hown := hX.2.2.2.1
  have hts := hX.2.2.2.2
  intro  H locs ls hq hH hl
  unfold v_L_isSo_395 at hq
  refine lv_iconst (v := 0) hx hb dL_isSo_395 (by decide) ?_
  exact s_L_isSo_396  C0  (0 : Int32) _ _ _ hq hH (lv_sub hl [] rfl)
set_option maxRecDepth 100000 in
set_option maxHeartbeats 4000000 in
theorem s_L_isSo_355 {I : wI} {Q : Int32 → Prop} (C0 : wCx p m c s args meth cL_isSo 13 RL (some .boolean) D cs ad b) : ∀ (v5 : Int32) (v8 : Int32) (t0 : Int32) (H : Heap) (locs : List Loc) (ls : Array Slot), v_L_isSo_355 I Q v5 v8 t0 → wH D cs b G I s H locs → lv_has ls 13 [(0, .ref (G.1 0)), (5, .int v5), (8, .int v8)] → W p l e rm_L_isSo s m args below meth c H locs 0 0 (MQ below (va_Qi (fun r I' => I' = I ∧ Q r) (wPo D cs b G) (fun q => b ≤ q)) args s 0 0 (fun q => b ≤ q)) (F0 m 355 ls [.int t0]) := by
  obtain ⟨hX, hr, hlk, hK, hE⟩ := id C0
  have hx := hX.1
  have hb := hX.2.1
  have hown := hX.2.2.2.1
  have hts := hX.2.2.2.2
  intro v5 v8 t0 H locs ls hq hH hl
  unfold v_L_isSo_355 at hq
  refine lv_istore (lv' := [(9, .int t0), (0, .ref (G.1 0)), (5, .int v5), (8, .int v8)]) hx hb dL_isSo_355 hl (by decide) rfl (fun ls hl => ?_)
  refine lv_iload hx hb dL_isSo_357 (lv_at hl 0 rfl) ?_
  refine lv_if_eq (tgt := 395) hx hb dL_isSo_359 (by decide) (fun hc => ?_) (fun hc => ?_)
  · have hq := hq.1 hc
    exact s_L_isSo_395  C0   _ _ _ hq hH (lv_sub hl [] rfl)
  · have hq := hq.2 hc
    refine lv_aload_n hx hb dL_isSo_362 rfl (lv_at hl 1 rfl) ?_
    obtain ⟨hp, hq⟩ := hq
    refine w_cDp hH (w_rV (As := []) (rest := []) hX hK hE hH (c_X5_openShare   _ hp) ck5 sh0 q3_106 q3_107 q3_108 q1_1 q3_109 hd_X5_openShare ⟨Nat.le_of_ble_eq_true rfl, Nat.le_of_ble_eq_true rfl⟩ ⟨rfl, rfl⟩ rfl hl.1 rfl (Nat.le_of_ble_eq_true rfl) dL_isSo_363 ⟨Nat.zero_le _, Nat.zero_le _⟩) (fun r1  H locs hpo hH => ?_)
    have hq := hq r1  hpo
    refine lv_iload hx hb dL_isSo_366 (lv_at hl 3 rfl) ?_
    refine lv_i2d hx hb dL_isSo_368 ?_
    refine lv_ldc2d hx hb hown (hts _ q3_111) dL_isSo_369 ?_
    obtain ⟨hc, hq⟩ := hq
    refine lv_ddiv hx hb dL_isSo_372 hc ?_
    refine lv_dcmp hx hb dL_isSo_373 ?_
    refine lv_if_ne (tgt := 395) hx hb dL_isSo_374 (by decide) (fun hc => ?_) (fun hc => ?_)
    · have hq := hq.1 hc
      exact s_L_isSo_395  C0   _ _ _ hq hH (lv_sub hl [] rfl)
    · have hq := hq.2 hc
      refine lv_aload_n hx hb dL_isSo_377 rfl (lv_at hl 1 rfl) ?_
      obtain ⟨hp, hq⟩ := hq
      refine w_cFp hH (w_rV (As := []) (rest := []) hX hK hE hH (c_X5_meanNotch   _ hp) ck5 sh0 q3_112 q3_113 q3_114 q1_1 q3_115 hd_X5_meanNotch ⟨Nat.le_of_ble_eq_true rfl, Nat.le_of_ble_eq_true rfl⟩ ⟨rfl, rfl⟩ rfl hl.1 rfl (Nat.le_of_ble_eq_true rfl) dL_isSo_378 ⟨Nat.zero_le _, Nat.zero_le _⟩) (fun r2  H locs hpo hH => ?_)
      have hq := hq r2  hpo
      refine lv_iload hx hb dL_isSo_381 (lv_at hl 2 rfl) ?_
      refine lv_i2f hx hb dL_isSo_383 ?_
      refine lv_ldcf hx hb hown (hts _ q3_117) dL_isSo_384 ?_
      obtain ⟨hc, hq⟩ := hq
      refine lv_fdiv hx hb dL_isSo_386 hc ?_
      refine lv_fcmp hx hb dL_isSo_387 ?_
      refine lv_if_ne (tgt := 395) hx hb dL_isSo_388 (by decide) (fun hc => ?_) (fun hc => ?_)
      · have hq := hq.1 hc
        exact s_L_isSo_395  C0   _ _ _ hq hH (lv_sub hl [] rfl)
      · have hq := hq.2 hc
        refine lv_iconst (v := 1) hx hb dL_isSo_391 (by decide) ?_
        refine lv_goto (tgt := 396) hx hb dL_isSo_392 (by decide) ?_
        exact s_L_isSo_396  C0  (1 : Int32) _ _ _ hq hH (lv_sub hl [] rfl)
set_option maxRecDepth 100000 in
set_option maxHeartbeats 4000000 in
theorem s_L_isSo_354 {I : wI} {Q : Int32 → Prop} (C0 : wCx p m c s args meth cL_isSo 13 RL (some .boolean) D cs ad b) : ∀ (v5 : Int32) (v8 : Int32) (H : Heap) (locs : List Loc) (ls : Array Slot), v_L_isSo_354 I Q v5 v8 → wH D cs b G I s H locs → lv_has ls 13 [(0, .ref (G.1 0)), (5, .int v5), (8, .int v8)] → W p l e rm_L_isSo s m args below meth c H locs 0 0 (MQ below (va_Qi (fun r I' => I' = I ∧ Q r) (wPo D cs b G) (fun q => b ≤ q)) args s 0 0 (fun q => b ≤ q)) (F0 m 354 ls []) := by
  obtain ⟨hX, hr, hlk, hK, hE⟩ := id C0
  have hx := hX.1
  have hb := hX.2.1
  have hown := hX.2.2.2.1
  have hts := hX.2.2.2.2
  intro v5 v8 H locs ls hq hH hl
  unfold v_L_isSo_354 at hq
  refine lv_iconst (v := 0) hx hb dL_isSo_354 (by decide) ?_
  exact s_L_isSo_355  C0  v5 v8 (0 : Int32) _ _ _ hq hH (lv_sub hl [0, 1, 2] rfl)
set_option maxRecDepth 100000 in
set_option maxHeartbeats 4000000 in
theorem s_L_isSo_314 {I : wI} {Q : Int32 → Prop} (C0 : wCx p m c s args meth cL_isSo 13 RL (some .boolean) D cs ad b) : ∀ (v5 : Int32) (v7 : Int32) (v8 : Int32) (t0 : Int32) (t1 : Int32) (H : Heap) (locs : List Loc) (ls : Array Slot), v_L_isSo_314 I Q v5 v7 v8 t0 t1 → wH D cs b G I s H locs → lv_has ls 13 [(0, .ref (G.1 0)), (3, .ref (G.1 113)), (5, .int v5), (7, .int v7), (8, .int v8)] → W p l e rm_L_isSo s m args below meth c H locs 0 0 (MQ below (va_Qi (fun r I' => I' = I ∧ Q r) (wPo D cs b G) (fun q => b ≤ q)) args s 0 0 (fun q => b ≤ q)) (F0 m 314 ls [.int t0, .int t1]) := by
  obtain ⟨hX, hr, hlk, hK, hE⟩ := id C0
  have hx := hX.1
  have hb := hX.2.1
  have hown := hX.2.2.2.1
  have hts := hX.2.2.2.2
  intro v5 v7 v8 t0 t1 H locs ls hq hH hl
  unfold v_L_isSo_314 at hq
  refine lv_icmp_ne (tgt := 354) hx hb dL_isSo_314 (by decide) (fun hc => ?_) (fun hc => ?_)
  · have hq := hq.1 hc
    exact s_L_isSo_354  C0  v5 v8 _ _ _ hq hH (lv_sub hl [0, 2, 4] rfl)
  · have hq := hq.2 hc
    refine lv_aload_n hx hb dL_isSo_317 rfl (lv_at hl 0 rfl) ?_
    refine lv_iconst (v := 5) hx hb dL_isSo_318 (by decide) ?_
    obtain ⟨hp, hq⟩ := hq
    refine w_cIp hH (w_rV (As := [.int (5 : Int32)]) (rest := []) hX hK hE hH (c_X5_count  _ _ hp) ck5 sh0 q2_236 q2_237 q2_238 q1_1 q2_239 hd_X5_count ⟨Nat.le_of_ble_eq_true rfl, Nat.le_of_ble_eq_true rfl⟩ ⟨rfl, rfl⟩ rfl hl.1 rfl (Nat.le_of_ble_eq_true rfl) dL_isSo_319 ⟨Nat.zero_le _, Nat.zero_le _⟩) (fun r1  H locs hpo hH => ?_)
    have hq := hq r1  hpo
    refine lv_iload hx hb dL_isSo_322 (lv_at hl 4 rfl) ?_
    refine lv_icmp_ne (tgt := 354) hx hb dL_isSo_324 (by decide) (fun hc => ?_) (fun hc => ?_)
    · have hq := hq.1 hc
      exact s_L_isSo_354  C0  v5 v8 _ _ _ hq hH (lv_sub hl [0, 2, 4] rfl)
    · have hq := hq.2 hc
      refine lv_aload_n hx hb dL_isSo_327 rfl (lv_at hl 0 rfl) ?_
      refine lv_bipush (v := 6) hx hb dL_isSo_328 (by decide) ?_
      obtain ⟨hp, hq⟩ := hq
      refine w_cIp hH (w_rV (As := [.int (6 : Int32)]) (rest := []) hX hK hE hH (c_X5_count  _ _ hp) ck5 sh0 q2_236 q2_237 q2_238 q1_1 q2_239 hd_X5_count ⟨Nat.le_of_ble_eq_true rfl, Nat.le_of_ble_eq_true rfl⟩ ⟨rfl, rfl⟩ rfl hl.1 rfl (Nat.le_of_ble_eq_true rfl) dL_isSo_330 ⟨Nat.zero_le _, Nat.zero_le _⟩) (fun r2  H locs hpo hH => ?_)
      have hq := hq r2  hpo
      refine lv_iload hx hb dL_isSo_333 (lv_at hl 3 rfl) ?_
      refine lv_icmp_ne (tgt := 354) hx hb dL_isSo_335 (by decide) (fun hc => ?_) (fun hc => ?_)
      · have hq := hq.1 hc
        exact s_L_isSo_354  C0  v5 v8 _ _ _ hq hH (lv_sub hl [0, 2, 4] rfl)
      · have hq := hq.2 hc
        refine lv_aload_n hx hb dL_isSo_338 rfl (lv_at hl 0 rfl) ?_
        refine lv_bipush (v := 8) hx hb dL_isSo_339 (by decide) ?_
        obtain ⟨hp, hq⟩ := hq
        refine w_cIp hH (w_rV (As := [.int (8 : Int32)]) (rest := []) hX hK hE hH (c_X5_count  _ _ hp) ck5 sh0 q2_236 q2_237 q2_238 q1_1 q2_239 hd_X5_count ⟨Nat.le_of_ble_eq_true rfl, Nat.le_of_ble_eq_true rfl⟩ ⟨rfl, rfl⟩ rfl hl.1 rfl (Nat.le_of_ble_eq_true rfl) dL_isSo_341 ⟨Nat.zero_le _, Nat.zero_le _⟩) (fun r3  H locs hpo hH => ?_)
        have hq := hq r3  hpo
        refine lv_aload_n hx hb dL_isSo_344 rfl (lv_at hl 1 rfl) ?_
        refine lv_iconst (v := 1) hx hb dL_isSo_345 (by decide) ?_
        obtain ⟨hc, hq⟩ := hq
        refine w_iald5 hX hK hH (la113 hH.2.2.1) hc dL_isSo_346 ?_
        refine lv_icmp_ne (tgt := 354) hx hb dL_isSo_347 (by decide) (fun hc => ?_) (fun hc => ?_)
        · have hq := hq.1 hc
          exact s_L_isSo_354  C0  v5 v8 _ _ _ hq hH (lv_sub hl [0, 2, 4] rfl)
        · have hq := hq.2 hc
          refine lv_iconst (v := 1) hx hb dL_isSo_350 (by decide) ?_
          refine lv_goto (tgt := 355) hx hb dL_isSo_351 (by decide) ?_
          exact s_L_isSo_355  C0  v5 v8 (1 : Int32) _ _ _ hq hH (lv_sub hl [0, 2, 4] rfl)
set_option maxRecDepth 100000 in
set_option maxHeartbeats 4000000 in
theorem s_L_isSo_222 {I : wI} {Q : Int32 → Prop} (C0 : wCx p m c s args meth cL_isSo 13 RL (some .boolean) D cs ad b) : ∀  (H : Heap) (locs : List Loc) (ls : Array Slot), v_L_isSo_222 I Q  → wH D cs b G I s H locs → lv_has ls 13 [] → W p l e rm_L_isSo s m args below meth c H locs 0 0 (MQ below (va_Qi (fun r I' => I' = I ∧ Q r) (wPo D cs b G) (fun q => b ≤ q)) args s 0 0 (fun q => b ≤ q)) (F0 m 222 ls []) := by
  obtain ⟨hX, hr, hlk, hK, hE⟩ := id C0
  have hx := hX.1
  have hb := hX.2.1
  have hown := hX.2.2.2.1
  have hts := hX.2.2.2.2
  intro  H locs ls hq hH hl
  unfold v_L_isSo_222 at hq
  refine lv_iconst (v := 0) hx hb dL_isSo_222 (by decide) ?_
  exact w_eZ (by decide) hX hr hlk hH ⟨rfl, hq⟩ dL_isSo_223
set_option maxRecDepth 100000 in
set_option maxHeartbeats 4000000 in
theorem s_L_isSo_163 {I : wI} {Q : Int32 → Prop} {K12 : Int32 → Int32 → Int32 → Int32 → Prop} (C0 : wCx p m c s args meth cL_isSo 13 RL (some .boolean) D cs ad b) (hK12 : ∀ (v5 : Int32) (v6 : Int32) (v7 : Int32) (v8 : Int32) (H : Heap) (locs : List Loc) (ls : Array Slot), K12 v5 v6 v7 v8 → wH D cs b G I s H locs → lv_has ls 13 [(0, .ref (G.1 0)), (1, .ref (G.1 111)), (2, .ref (G.1 112)), (3, .ref (G.1 113)), (4, .ref (G.1 114)), (5, .int v5), (6, .int v6), (7, .int v7), (8, .int v8)] → W p l e rm_L_isSo s m args below meth c H locs 0 0 (MQ below (va_Qi (fun r I' => I' = I ∧ Q r) (wPo D cs b G) (fun q => b ≤ q)) args s 0 0 (fun q => b ≤ q)) (F0 m 12 ls [])) : ∀ (f : Nat) (v5 : Int32) (v6 : Int32) (v7 : Int32) (v8 : Int32) (v11 : Int32) (v12 : Int32) (H : Heap) (locs : List Loc) (ls : Array Slot), v_L_isSo_163 I Q K12 f v5 v6 v7 v8 v11 v12 → wH D cs b G I s H locs → lv_has ls 13 [(0, .ref (G.1 0)), (1, .ref (G.1 111)), (2, .ref (G.1 112)), (3, .ref (G.1 113)), (4, .ref (G.1 114)), (5, .int v5), (6, .int v6), (7, .int v7), (8, .int v8), (11, .int v11), (12, .int v12)] → W p l e rm_L_isSo s m args below meth c H locs 0 0 (MQ below (va_Qi (fun r I' => I' = I ∧ Q r) (wPo D cs b G) (fun q => b ≤ q)) args s 0 0 (fun q => b ≤ q)) (F0 m 163 ls []) := by
  obtain ⟨hX, hr, hlk, hK, hE⟩ := id C0
  have hx := hX.1
  have hb := hX.2.1
  have hown := hX.2.2.2.1
  have hts := hX.2.2.2.2
  intro f
  induction f with
  | zero =>
    intro v5 v6 v7 v8 v11 v12 H locs ls hq
    exact hq.elim
  | succ f hK163 =>
    intro v5 v6 v7 v8 v11 v12 H locs ls hq hH hl
    have hq : g_L_isSo_163 I Q K12 (v_L_isSo_163 I Q K12 f) v5 v6 v7 v8 v11 v12 := hq
    unfold g_L_isSo_163 at hq
    refine lv_iload hx hb dL_isSo_163 (lv_at hl 10 rfl) ?_
    refine lv_iconst (v := 5) hx hb dL_isSo_165 (by decide) ?_
    refine lv_icmp_ge (tgt := 192) hx hb dL_isSo_166 (by decide) (fun hc => ?_) (fun hc => ?_)
    · have hq := hq.1 hc
      refine lv_aload_n hx hb dL_isSo_192 rfl (lv_at hl 0 rfl) ?_
      refine lv_iload hx hb dL_isSo_193 (lv_at hl 8 rfl) ?_
      refine lv_iconst (v := 2) hx hb dL_isSo_195 (by decide) ?_
      obtain ⟨hp, hq⟩ := hq
      refine w_cIp hH (w_rV (As := [.int v8, .int (2 : Int32)]) (rest := []) hX hK hE hH (c_X5_at  _ _ _ hp) ck5 sh0 q2_77 q2_78 q2_79 q1_1 q2_80 hd_X5_at ⟨Nat.le_of_ble_eq_true rfl, Nat.le_of_ble_eq_true rfl⟩ ⟨rfl, rfl⟩ rfl hl.1 rfl (Nat.le_of_ble_eq_true rfl) dL_isSo_196 ⟨Nat.zero_le _, Nat.zero_le _⟩) (fun r1  H locs hpo hH => ?_)
      have hq := hq r1  hpo
      refine lv_aload_n hx hb dL_isSo_199 rfl (lv_at hl 3 rfl) ?_
      refine lv_iconst (v := 3) hx hb dL_isSo_200 (by decide) ?_
      obtain ⟨hc, hq⟩ := hq
      refine w_iald5 hX hK hH (la113 hH.2.2.1) hc dL_isSo_201 ?_
      refine lv_iload hx hb dL_isSo_202 (lv_at hl 8 rfl) ?_
      refine lv_ishr hx hb dL_isSo_204 ?_
      refine lv_iconst (v := 1) hx hb dL_isSo_205 (by decide) ?_
      refine lv_iand hx hb dL_isSo_206 ?_
      refine lv_icmp_ne (tgt := 222) hx hb dL_isSo_207 (by decide) (fun hc => ?_) (fun hc => ?_)
      · have hq := hq.1 hc
        exact s_L_isSo_222  C0   _ _ _ hq hH (lv_sub hl [] rfl)
      · have hq := hq.2 hc
        refine lv_aload_n hx hb dL_isSo_210 rfl (lv_at hl 0 rfl) ?_
        refine lv_iload hx hb dL_isSo_211 (lv_at hl 8 rfl) ?_
        refine lv_iconst (v := 4) hx hb dL_isSo_213 (by decide) ?_
        obtain ⟨hp, hq⟩ := hq
        refine w_cIp hH (w_rV (As := [.int v8, .int (4 : Int32)]) (rest := []) hX hK hE hH (c_X5_at  _ _ _ hp) ck5 sh0 q2_77 q2_78 q2_79 q1_1 q2_80 hd_X5_at ⟨Nat.le_of_ble_eq_true rfl, Nat.le_of_ble_eq_true rfl⟩ ⟨rfl, rfl⟩ rfl hl.1 rfl (Nat.le_of_ble_eq_true rfl) dL_isSo_214 ⟨Nat.zero_le _, Nat.zero_le _⟩) (fun r2  H locs hpo hH => ?_)
        have hq := hq r2  hpo
        refine lv_iload hx hb dL_isSo_217 (lv_at hl 9 rfl) ?_
        refine lv_icmp_eq (tgt := 224) hx hb dL_isSo_219 (by decide) (fun hc => ?_) (fun hc => ?_)
        · have hq := hq.1 hc
          refine lv_iload hx hb dL_isSo_224 (lv_at hl 7 rfl) ?_
          refine lv_aload_n hx hb dL_isSo_226 rfl (lv_at hl 3 rfl) ?_
          refine lv_iconst (v := 3) hx hb dL_isSo_227 (by decide) ?_
          obtain ⟨hc, hq⟩ := hq
          refine w_iald5 hX hK hH (la113 hH.2.2.1) hc dL_isSo_228 ?_
          refine lv_iload hx hb dL_isSo_229 (lv_at hl 8 rfl) ?_
          refine lv_ishr hx hb dL_isSo_231 ?_
          refine lv_iconst (v := 1) hx hb dL_isSo_232 (by decide) ?_
          refine lv_iand hx hb dL_isSo_233 ?_
          refine lv_iadd hx hb dL_isSo_234 ?_
          refine lv_istore (lv' := [(7, .int (v7 + (((I 113 ((3 : Int32)).toNatClampNeg) >>> (v8 &&& 31)) &&& (1 : Int32)))), (0, .ref (G.1 0)), (1, .ref (G.1 111)), (2, .ref (G.1 112)), (3, .ref (G.1 113)), (4, .ref (G.1 114)), (5, .int v5), (6, .int v6), (8, .int v8), (11, .int v11), (12, .int v12)]) hx hb dL_isSo_235 hl (by decide) rfl (fun ls hl => ?_)
          refine lv_iinc (v := (v8 + (1 : Int32))) (lv' := [(8, .int (v8 + (1 : Int32))), (7, .int (v7 + (((I 113 ((3 : Int32)).toNatClampNeg) >>> (v8 &&& 31)) &&& (1 : Int32)))), (0, .ref (G.1 0)), (1, .ref (G.1 111)), (2, .ref (G.1 112)), (3, .ref (G.1 113)), (4, .ref (G.1 114)), (5, .int v5), (6, .int v6), (11, .int v11), (12, .int v12)]) hx hb dL_isSo_237 hl (k := 8) rfl rfl (by decide) rfl (fun ls hl => ?_)
          refine lv_goto (tgt := 12) hx hb dL_isSo_240 (by decide) ?_
          exact hK12 v5 v6 (v7 + (((I 113 ((3 : Int32)).toNatClampNeg) >>> (v8 &&& 31)) &&& (1 : Int32))) (v8 + (1 : Int32)) _ _ _ hq hH (lv_sub hl [2, 3, 4, 5, 6, 7, 8, 1, 0] rfl)
        · have hq := hq.2 hc
          exact s_L_isSo_222  C0   _ _ _ hq hH (lv_sub hl [] rfl)
    · have hq := hq.2 hc
      refine lv_iload hx hb dL_isSo_169 (lv_at hl 9 rfl) ?_
      refine lv_aload_n hx hb dL_isSo_171 rfl (lv_at hl 2 rfl) ?_
      refine lv_iload hx hb dL_isSo_172 (lv_at hl 10 rfl) ?_
      obtain ⟨hc, hq⟩ := hq
      refine w_iald5 hX hK hH (la112 hH.2.2.1) hc dL_isSo_174 ?_
      refine lv_iload hx hb dL_isSo_175 (lv_at hl 8 rfl) ?_
      refine lv_ishr hx hb dL_isSo_177 ?_
      refine lv_iconst (v := 1) hx hb dL_isSo_178 (by decide) ?_
      refine lv_iand hx hb dL_isSo_179 ?_
      refine lv_iload hx hb dL_isSo_180 (lv_at hl 10 rfl) ?_
      refine lv_ishl hx hb dL_isSo_182 ?_
      refine lv_ior hx hb dL_isSo_183 ?_
      refine lv_istore (lv' := [(11, .int (v11 ||| ((((I 112 (v12).toNatClampNeg) >>> (v8 &&& 31)) &&& (1 : Int32)) <<< (v12 &&& 31)))), (0, .ref (G.1 0)), (1, .ref (G.1 111)), (2, .ref (G.1 112)), (3, .ref (G.1 113)), (4, .ref (G.1 114)), (5, .int v5), (6, .int v6), (7, .int v7), (8, .int v8), (12, .int v12)]) hx hb dL_isSo_184 hl (by decide) rfl (fun ls hl => ?_)
      refine lv_iinc (v := (v12 + (1 : Int32))) (lv' := [(12, .int (v12 + (1 : Int32))), (11, .int (v11 ||| ((((I 112 (v12).toNatClampNeg) >>> (v8 &&& 31)) &&& (1 : Int32)) <<< (v12 &&& 31)))), (0, .ref (G.1 0)), (1, .ref (G.1 111)), (2, .ref (G.1 112)), (3, .ref (G.1 113)), (4, .ref (G.1 114)), (5, .int v5), (6, .int v6), (7, .int v7), (8, .int v8)]) hx hb dL_isSo_186 hl (k := 10) rfl rfl (by decide) rfl (fun ls hl => ?_)
      refine lv_goto (tgt := 163) hx hb dL_isSo_189 (by decide) ?_
      exact hK163 v5 v6 v7 v8 (v11 ||| ((((I 112 (v12).toNatClampNeg) >>> (v8 &&& 31)) &&& (1 : Int32)) <<< (v12 &&& 31))) (v12 + (1 : Int32)) _ _ _ hq hH (lv_sub hl [2, 3, 4, 5, 6, 7, 8, 9, 10, 1, 0] rfl)
set_option maxRecDepth 100000 in
set_option maxHeartbeats 4000000 in
theorem s_L_isSo_154 {I : wI} {Q : Int32 → Prop} {K12 : Int32 → Int32 → Int32 → Int32 → Prop} (C0 : wCx p m c s args meth cL_isSo 13 RL (some .boolean) D cs ad b) (hK12 : ∀ (v5 : Int32) (v6 : Int32) (v7 : Int32) (v8 : Int32) (H : Heap) (locs : List Loc) (ls : Array Slot), K12 v5 v6 v7 v8 → wH D cs b G I s H locs → lv_has ls 13 [(0, .ref (G.1 0)), (1, .ref (G.1 111)), (2, .ref (G.1 112)), (3, .ref (G.1 113)), (4, .ref (G.1 114)), (5, .int v5), (6, .int v6), (7, .int v7), (8, .int v8)] → W p l e rm_L_isSo s m args below meth c H locs 0 0 (MQ below (va_Qi (fun r I' => I' = I ∧ Q r) (wPo D cs b G) (fun q => b ≤ q)) args s 0 0 (fun q => b ≤ q)) (F0 m 12 ls [])) : ∀ (v5 : Int32) (v7 : Int32) (v8 : Int32) (t0 : Int32) (t1 : Int32) (H : Heap) (locs : List Loc) (ls : Array Slot), v_L_isSo_154 I Q K12 v5 v7 v8 t0 t1 → wH D cs b G I s H locs → lv_has ls 13 [(0, .ref (G.1 0)), (1, .ref (G.1 111)), (2, .ref (G.1 112)), (3, .ref (G.1 113)), (4, .ref (G.1 114)), (5, .int v5), (7, .int v7), (8, .int v8)] → W p l e rm_L_isSo s m args below meth c H locs 0 0 (MQ below (va_Qi (fun r I' => I' = I ∧ Q r) (wPo D cs b G) (fun q => b ≤ q)) args s 0 0 (fun q => b ≤ q)) (F0 m 154 ls [.int t0, .int t1]) := by
  obtain ⟨hX, hr, hlk, hK, hE⟩ := id C0
  have hx := hX.1
  have hb := hX.2.1
  have hown := hX.2.2.2.1
  have hts := hX.2.2.2.2
  intro v5 v7 v8 t0 t1 H locs ls hq hH hl
  unfold v_L_isSo_154 at hq
  refine lv_iadd hx hb dL_isSo_154 ?_
  refine lv_istore (lv' := [(6, .int (t1 + t0)), (0, .ref (G.1 0)), (1, .ref (G.1 111)), (2, .ref (G.1 112)), (3, .ref (G.1 113)), (4, .ref (G.1 114)), (5, .int v5), (7, .int v7), (8, .int v8)]) hx hb dL_isSo_155 hl (by decide) rfl (fun ls hl => ?_)
  refine lv_iconst (v := 0) hx hb dL_isSo_157 (by decide) ?_
  refine lv_istore (lv' := [(11, .int (0 : Int32)), (6, .int (t1 + t0)), (0, .ref (G.1 0)), (1, .ref (G.1 111)), (2, .ref (G.1 112)), (3, .ref (G.1 113)), (4, .ref (G.1 114)), (5, .int v5), (7, .int v7), (8, .int v8)]) hx hb dL_isSo_158 hl (by decide) rfl (fun ls hl => ?_)
  refine lv_iconst (v := 0) hx hb dL_isSo_160 (by decide) ?_
  refine lv_istore (lv' := [(12, .int (0 : Int32)), (11, .int (0 : Int32)), (6, .int (t1 + t0)), (0, .ref (G.1 0)), (1, .ref (G.1 111)), (2, .ref (G.1 112)), (3, .ref (G.1 113)), (4, .ref (G.1 114)), (5, .int v5), (7, .int v7), (8, .int v8)]) hx hb dL_isSo_161 hl (by decide) rfl (fun ls hl => ?_)
  obtain ⟨f, hq⟩ := hq
  exact s_L_isSo_163  C0 hK12 f v5 (t1 + t0) v7 v8 (0 : Int32) (0 : Int32) _ _ _ hq hH (lv_sub hl [3, 4, 5, 6, 7, 8, 2, 9, 10, 1, 0] rfl)
set_option maxRecDepth 100000 in
set_option maxHeartbeats 4000000 in
theorem s_L_isSo_153 {I : wI} {Q : Int32 → Prop} {K12 : Int32 → Int32 → Int32 → Int32 → Prop} (C0 : wCx p m c s args meth cL_isSo 13 RL (some .boolean) D cs ad b) (hK12 : ∀ (v5 : Int32) (v6 : Int32) (v7 : Int32) (v8 : Int32) (H : Heap) (locs : List Loc) (ls : Array Slot), K12 v5 v6 v7 v8 → wH D cs b G I s H locs → lv_has ls 13 [(0, .ref (G.1 0)), (1, .ref (G.1 111)), (2, .ref (G.1 112)), (3, .ref (G.1 113)), (4, .ref (G.1 114)), (5, .int v5), (6, .int v6), (7, .int v7), (8, .int v8)] → W p l e rm_L_isSo s m args below meth c H locs 0 0 (MQ below (va_Qi (fun r I' => I' = I ∧ Q r) (wPo D cs b G) (fun q => b ≤ q)) args s 0 0 (fun q => b ≤ q)) (F0 m 12 ls [])) : ∀ (v5 : Int32) (v7 : Int32) (v8 : Int32) (t0 : Int32) (H : Heap) (locs : List Loc) (ls : Array Slot), v_L_isSo_153 I Q K12 v5 v7 v8 t0 → wH D cs b G I s H locs → lv_has ls 13 [(0, .ref (G.1 0)), (1, .ref (G.1 111)), (2, .ref (G.1 112)), (3, .ref (G.1 113)), (4, .ref (G.1 114)), (5, .int v5), (7, .int v7), (8, .int v8)] → W p l e rm_L_isSo s m args below meth c H locs 0 0 (MQ below (va_Qi (fun r I' => I' = I ∧ Q r) (wPo D cs b G) (fun q => b ≤ q)) args s 0 0 (fun q => b ≤ q)) (F0 m 153 ls [.int t0]) := by
  obtain ⟨hX, hr, hlk, hK, hE⟩ := id C0
  have hx := hX.1
  have hb := hX.2.1
  have hown := hX.2.2.2.1
  have hts := hX.2.2.2.2
  intro v5 v7 v8 t0 H locs ls hq hH hl
  unfold v_L_isSo_153 at hq
  refine lv_iconst (v := 0) hx hb dL_isSo_153 (by decide) ?_
  exact s_L_isSo_154  C0 hK12 v5 v7 v8 (0 : Int32) t0 _ _ _ hq hH (lv_sub hl [0, 1, 2, 3, 4, 5, 6, 7] rfl)
set_option maxRecDepth 100000 in
set_option maxHeartbeats 4000000 in
theorem s_L_isSo_116 {I : wI} {Q : Int32 → Prop} (C0 : wCx p m c s args meth cL_isSo 13 RL (some .boolean) D cs ad b) : ∀  (H : Heap) (locs : List Loc) (ls : Array Slot), v_L_isSo_116 I Q  → wH D cs b G I s H locs → lv_has ls 13 [] → W p l e rm_L_isSo s m args below meth c H locs 0 0 (MQ below (va_Qi (fun r I' => I' = I ∧ Q r) (wPo D cs b G) (fun q => b ≤ q)) args s 0 0 (fun q => b ≤ q)) (F0 m 116 ls []) := by
  obtain ⟨hX, hr, hlk, hK, hE⟩ := id C0
  have hx := hX.1
  have hb := hX.2.1
  have hown := hX.2.2.2.1
  have hts := hX.2.2.2.2
  intro  H locs ls hq hH hl
  unfold v_L_isSo_116 at hq
  refine lv_iconst (v := 0) hx hb dL_isSo_116 (by decide) ?_
  exact w_eZ (by decide) hX hr hlk hH ⟨rfl, hq⟩ dL_isSo_117
set_option maxRecDepth 100000 in
set_option maxHeartbeats 4000000 in
theorem s_L_isSo_113 {I : wI} {Q : Int32 → Prop} {K12 : Int32 → Int32 → Int32 → Int32 → Prop} (C0 : wCx p m c s args meth cL_isSo 13 RL (some .boolean) D cs ad b) (hK12 : ∀ (v5 : Int32) (v6 : Int32) (v7 : Int32) (v8 : Int32) (H : Heap) (locs : List Loc) (ls : Array Slot), K12 v5 v6 v7 v8 → wH D cs b G I s H locs → lv_has ls 13 [(0, .ref (G.1 0)), (1, .ref (G.1 111)), (2, .ref (G.1 112)), (3, .ref (G.1 113)), (4, .ref (G.1 114)), (5, .int v5), (6, .int v6), (7, .int v7), (8, .int v8)] → W p l e rm_L_isSo s m args below meth c H locs 0 0 (MQ below (va_Qi (fun r I' => I' = I ∧ Q r) (wPo D cs b G) (fun q => b ≤ q)) args s 0 0 (fun q => b ≤ q)) (F0 m 12 ls [])) : ∀ (v5 : Int32) (v6 : Int32) (v7 : Int32) (v8 : Int32) (v9 : Int32) (t0 : Int32) (t1 : Int32) (H : Heap) (locs : List Loc) (ls : Array Slot), v_L_isSo_113 I Q K12 v5 v6 v7 v8 v9 t0 t1 → wH D cs b G I s H locs → lv_has ls 13 [(0, .ref (G.1 0)), (1, .ref (G.1 111)), (2, .ref (G.1 112)), (3, .ref (G.1 113)), (4, .ref (G.1 114)), (5, .int v5), (6, .int v6), (7, .int v7), (8, .int v8), (9, .int v9)] → W p l e rm_L_isSo s m args below meth c H locs 0 0 (MQ below (va_Qi (fun r I' => I' = I ∧ Q r) (wPo D cs b G) (fun q => b ≤ q)) args s 0 0 (fun q => b ≤ q)) (F0 m 113 ls [.int t0, .int t1]) := by
  obtain ⟨hX, hr, hlk, hK, hE⟩ := id C0
  have hx := hX.1
  have hb := hX.2.1
  have hown := hX.2.2.2.1
  have hts := hX.2.2.2.2
  intro v5 v6 v7 v8 v9 t0 t1 H locs ls hq hH hl
  unfold v_L_isSo_113 at hq
  refine lv_icmp_eq (tgt := 118) hx hb dL_isSo_113 (by decide) (fun hc => ?_) (fun hc => ?_)
  · have hq := hq.1 hc
    refine lv_iload hx hb dL_isSo_118 (lv_at hl 5 rfl) ?_
    refine lv_aload_n hx hb dL_isSo_120 rfl (lv_at hl 1 rfl) ?_
    refine lv_bipush (v := 6) hx hb dL_isSo_121 (by decide) ?_
    refine lv_iload hx hb dL_isSo_123 (lv_at hl 8 rfl) ?_
    refine lv_iadd hx hb dL_isSo_125 ?_
    obtain ⟨hc, hq⟩ := hq
    refine w_iald5 hX hK hH (la111 hH.2.2.1) hc dL_isSo_126 ?_
    refine lv_iadd hx hb dL_isSo_127 ?_
    refine lv_istore (lv' := [(5, .int (v5 + (I 111 (((6 : Int32) + v8)).toNatClampNeg))), (0, .ref (G.1 0)), (1, .ref (G.1 111)), (2, .ref (G.1 112)), (3, .ref (G.1 113)), (4, .ref (G.1 114)), (6, .int v6), (7, .int v7), (8, .int v8), (9, .int v9)]) hx hb dL_isSo_128 hl (by decide) rfl (fun ls hl => ?_)
    refine lv_iload hx hb dL_isSo_130 (lv_at hl 6 rfl) ?_
    refine lv_iload hx hb dL_isSo_132 (lv_at hl 9 rfl) ?_
    refine lv_iload hx hb dL_isSo_134 (lv_at hl 8 rfl) ?_
    refine lv_icmp_ne (tgt := 153) hx hb dL_isSo_136 (by decide) (fun hc => ?_) (fun hc => ?_)
    · have hq := hq.1 hc
      exact s_L_isSo_153  C0 hK12 (v5 + (I 111 (((6 : Int32) + v8)).toNatClampNeg)) v7 v8 v6 _ _ _ hq hH (lv_sub hl [1, 2, 3, 4, 5, 0, 7, 8] rfl)
    · have hq := hq.2 hc
      refine lv_aload_n hx hb dL_isSo_139 rfl (lv_at hl 2 rfl) ?_
      refine lv_bipush (v := 6) hx hb dL_isSo_140 (by decide) ?_
      refine lv_iload hx hb dL_isSo_142 (lv_at hl 8 rfl) ?_
      refine lv_iadd hx hb dL_isSo_144 ?_
      obtain ⟨hc, hq⟩ := hq
      refine w_iald5 hX hK hH (la111 hH.2.2.1) hc dL_isSo_145 ?_
      refine lv_if_ne (tgt := 153) hx hb dL_isSo_146 (by decide) (fun hc => ?_) (fun hc => ?_)
      · have hq := hq.1 hc
        exact s_L_isSo_153  C0 hK12 (v5 + (I 111 (((6 : Int32) + v8)).toNatClampNeg)) v7 v8 v6 _ _ _ hq hH (lv_sub hl [1, 2, 3, 4, 5, 0, 7, 8] rfl)
      · have hq := hq.2 hc
        refine lv_iconst (v := 1) hx hb dL_isSo_149 (by decide) ?_
        refine lv_goto (tgt := 154) hx hb dL_isSo_150 (by decide) ?_
        exact s_L_isSo_154  C0 hK12 (v5 + (I 111 (((6 : Int32) + v8)).toNatClampNeg)) v7 v8 (1 : Int32) v6 _ _ _ hq hH (lv_sub hl [1, 2, 3, 4, 5, 0, 7, 8] rfl)
  · have hq := hq.2 hc
    exact s_L_isSo_116  C0   _ _ _ hq hH (lv_sub hl [] rfl)
set_option maxRecDepth 100000 in
set_option maxHeartbeats 4000000 in
theorem s_L_isSo_65 {I : wI} {Q : Int32 → Prop} {K12 : Int32 → Int32 → Int32 → Int32 → Prop} (C0 : wCx p m c s args meth cL_isSo 13 RL (some .boolean) D cs ad b) (hK12 : ∀ (v5 : Int32) (v6 : Int32) (v7 : Int32) (v8 : Int32) (H : Heap) (locs : List Loc) (ls : Array Slot), K12 v5 v6 v7 v8 → wH D cs b G I s H locs → lv_has ls 13 [(0, .ref (G.1 0)), (1, .ref (G.1 111)), (2, .ref (G.1 112)), (3, .ref (G.1 113)), (4, .ref (G.1 114)), (5, .int v5), (6, .int v6), (7, .int v7), (8, .int v8)] → W p l e rm_L_isSo s m args below meth c H locs 0 0 (MQ below (va_Qi (fun r I' => I' = I ∧ Q r) (wPo D cs b G) (fun q => b ≤ q)) args s 0 0 (fun q => b ≤ q)) (F0 m 12 ls [])) : ∀ (v5 : Int32) (v6 : Int32) (v7 : Int32) (v8 : Int32) (v9 : Int32) (t0 : Int32) (H : Heap) (locs : List Loc) (ls : Array Slot), v_L_isSo_65 I Q K12 v5 v6 v7 v8 v9 t0 → wH D cs b G I s H locs → lv_has ls 13 [(0, .ref (G.1 0)), (1, .ref (G.1 111)), (2, .ref (G.1 112)), (3, .ref (G.1 113)), (4, .ref (G.1 114)), (5, .int v5), (6, .int v6), (7, .int v7), (8, .int v8), (9, .int v9)] → W p l e rm_L_isSo s m args below meth c H locs 0 0 (MQ below (va_Qi (fun r I' => I' = I ∧ Q r) (wPo D cs b G) (fun q => b ≤ q)) args s 0 0 (fun q => b ≤ q)) (F0 m 65 ls [.int t0]) := by
  obtain ⟨hX, hr, hlk, hK, hE⟩ := id C0
  have hx := hX.1
  have hb := hX.2.1
  have hown := hX.2.2.2.1
  have hts := hX.2.2.2.2
  intro v5 v6 v7 v8 v9 t0 H locs ls hq hH hl
  unfold v_L_isSo_65 at hq
  refine lv_istore (lv' := [(10, .int t0), (0, .ref (G.1 0)), (1, .ref (G.1 111)), (2, .ref (G.1 112)), (3, .ref (G.1 113)), (4, .ref (G.1 114)), (5, .int v5), (6, .int v6), (7, .int v7), (8, .int v8), (9, .int v9)]) hx hb dL_isSo_65 hl (by decide) rfl (fun ls hl => ?_)
  refine lv_aload_n hx hb dL_isSo_67 rfl (lv_at hl 1 rfl) ?_
  refine lv_iload hx hb dL_isSo_68 (lv_at hl 10 rfl) ?_
  refine lv_iconst (v := 0) hx hb dL_isSo_70 (by decide) ?_
  obtain ⟨hp, hq⟩ := hq
  refine w_cIp hH (w_rV (As := [.int v9, .int (0 : Int32)]) (rest := []) hX hK hE hH (c_X5_at  _ _ _ hp) ck5 sh0 q2_77 q2_78 q2_79 q1_1 q2_80 hd_X5_at ⟨Nat.le_of_ble_eq_true rfl, Nat.le_of_ble_eq_true rfl⟩ ⟨rfl, rfl⟩ rfl hl.1 rfl (Nat.le_of_ble_eq_true rfl) dL_isSo_71 ⟨Nat.zero_le _, Nat.zero_le _⟩) (fun r1  H locs hpo hH => ?_)
  have hq := hq r1  hpo
  refine lv_iload hx hb dL_isSo_74 (lv_at hl 9 rfl) ?_
  refine lv_icmp_ne (tgt := 116) hx hb dL_isSo_76 (by decide) (fun hc => ?_) (fun hc => ?_)
  · have hq := hq.1 hc
    exact s_L_isSo_116  C0   _ _ _ hq hH (lv_sub hl [] rfl)
  · have hq := hq.2 hc
    refine lv_aload_n hx hb dL_isSo_79 rfl (lv_at hl 1 rfl) ?_
    refine lv_iload hx hb dL_isSo_80 (lv_at hl 10 rfl) ?_
    refine lv_iconst (v := 1) hx hb dL_isSo_82 (by decide) ?_
    obtain ⟨hp, hq⟩ := hq
    refine w_cIp hH (w_rV (As := [.int v9, .int (1 : Int32)]) (rest := []) hX hK hE hH (c_X5_at  _ _ _ hp) ck5 sh0 q2_77 q2_78 q2_79 q1_1 q2_80 hd_X5_at ⟨Nat.le_of_ble_eq_true rfl, Nat.le_of_ble_eq_true rfl⟩ ⟨rfl, rfl⟩ rfl hl.1 rfl (Nat.le_of_ble_eq_true rfl) dL_isSo_83 ⟨Nat.zero_le _, Nat.zero_le _⟩) (fun r2  H locs hpo hH => ?_)
    have hq := hq r2  hpo
    refine lv_aload_n hx hb dL_isSo_86 rfl (lv_at hl 2 rfl) ?_
    refine lv_bipush (v := 6) hx hb dL_isSo_87 (by decide) ?_
    refine lv_iload hx hb dL_isSo_89 (lv_at hl 9 rfl) ?_
    refine lv_iadd hx hb dL_isSo_91 ?_
    obtain ⟨hc, hq⟩ := hq
    refine w_iald5 hX hK hH (la111 hH.2.2.1) hc dL_isSo_92 ?_
    refine lv_icmp_ne (tgt := 116) hx hb dL_isSo_93 (by decide) (fun hc => ?_) (fun hc => ?_)
    · have hq := hq.1 hc
      exact s_L_isSo_116  C0   _ _ _ hq hH (lv_sub hl [] rfl)
    · have hq := hq.2 hc
      refine lv_aload_n hx hb dL_isSo_96 rfl (lv_at hl 1 rfl) ?_
      refine lv_iload hx hb dL_isSo_97 (lv_at hl 10 rfl) ?_
      refine lv_iconst (v := 3) hx hb dL_isSo_99 (by decide) ?_
      obtain ⟨hp, hq⟩ := hq
      refine w_cIp hH (w_rV (As := [.int v9, .int (3 : Int32)]) (rest := []) hX hK hE hH (c_X5_at  _ _ _ hp) ck5 sh0 q2_77 q2_78 q2_79 q1_1 q2_80 hd_X5_at ⟨Nat.le_of_ble_eq_true rfl, Nat.le_of_ble_eq_true rfl⟩ ⟨rfl, rfl⟩ rfl hl.1 rfl (Nat.le_of_ble_eq_true rfl) dL_isSo_100 ⟨Nat.zero_le _, Nat.zero_le _⟩) (fun r3  H locs hpo hH => ?_)
      have hq := hq r3  hpo
      refine lv_iload hx hb dL_isSo_103 (lv_at hl 0 rfl) ?_
      refine lv_if_eq (tgt := 112) hx hb dL_isSo_105 (by decide) (fun hc => ?_) (fun hc => ?_)
      · have hq := hq.1 hc
        refine lv_iconst (v := 0) hx hb dL_isSo_112 (by decide) ?_
        exact s_L_isSo_113  C0 hK12 v5 v6 v7 v8 v9 (0 : Int32) r3 _ _ _ hq hH (lv_sub hl [1, 2, 3, 4, 5, 6, 7, 8, 9, 10] rfl)
      · have hq := hq.2 hc
        refine lv_iconst (v := 1) hx hb dL_isSo_108 (by decide) ?_
        refine lv_goto (tgt := 113) hx hb dL_isSo_109 (by decide) ?_
        exact s_L_isSo_113  C0 hK12 v5 v6 v7 v8 v9 (1 : Int32) r3 _ _ _ hq hH (lv_sub hl [1, 2, 3, 4, 5, 6, 7, 8, 9, 10] rfl)
set_option maxRecDepth 100000 in
set_option maxHeartbeats 4000000 in
theorem s_L_isSo_64 {I : wI} {Q : Int32 → Prop} {K12 : Int32 → Int32 → Int32 → Int32 → Prop} (C0 : wCx p m c s args meth cL_isSo 13 RL (some .boolean) D cs ad b) (hK12 : ∀ (v5 : Int32) (v6 : Int32) (v7 : Int32) (v8 : Int32) (H : Heap) (locs : List Loc) (ls : Array Slot), K12 v5 v6 v7 v8 → wH D cs b G I s H locs → lv_has ls 13 [(0, .ref (G.1 0)), (1, .ref (G.1 111)), (2, .ref (G.1 112)), (3, .ref (G.1 113)), (4, .ref (G.1 114)), (5, .int v5), (6, .int v6), (7, .int v7), (8, .int v8)] → W p l e rm_L_isSo s m args below meth c H locs 0 0 (MQ below (va_Qi (fun r I' => I' = I ∧ Q r) (wPo D cs b G) (fun q => b ≤ q)) args s 0 0 (fun q => b ≤ q)) (F0 m 12 ls [])) : ∀ (v5 : Int32) (v6 : Int32) (v7 : Int32) (v8 : Int32) (v9 : Int32) (H : Heap) (locs : List Loc) (ls : Array Slot), v_L_isSo_64 I Q K12 v5 v6 v7 v8 v9 → wH D cs b G I s H locs → lv_has ls 13 [(0, .ref (G.1 0)), (1, .ref (G.1 111)), (2, .ref (G.1 112)), (3, .ref (G.1 113)), (4, .ref (G.1 114)), (5, .int v5), (6, .int v6), (7, .int v7), (8, .int v8), (9, .int v9)] → W p l e rm_L_isSo s m args below meth c H locs 0 0 (MQ below (va_Qi (fun r I' => I' = I ∧ Q r) (wPo D cs b G) (fun q => b ≤ q)) args s 0 0 (fun q => b ≤ q)) (F0 m 64 ls []) := by
  obtain ⟨hX, hr, hlk, hK, hE⟩ := id C0
  have hx := hX.1
  have hb := hX.2.1
  have hown := hX.2.2.2.1
  have hts := hX.2.2.2.2
  intro v5 v6 v7 v8 v9 H locs ls hq hH hl
  unfold v_L_isSo_64 at hq
  refine lv_iconst (v := 0) hx hb dL_isSo_64 (by decide) ?_
  exact s_L_isSo_65  C0 hK12 v5 v6 v7 v8 v9 (0 : Int32) _ _ _ hq hH (lv_sub hl [0, 1, 2, 3, 4, 5, 6, 7, 8, 9] rfl)
set_option maxRecDepth 100000 in
set_option maxHeartbeats 4000000 in
theorem s_L_isSo_12 {I : wI} {Q : Int32 → Prop} (C0 : wCx p m c s args meth cL_isSo 13 RL (some .boolean) D cs ad b) : ∀ (f : Nat) (v5 : Int32) (v6 : Int32) (v7 : Int32) (v8 : Int32) (H : Heap) (locs : List Loc) (ls : Array Slot), v_L_isSo_12 I Q f v5 v6 v7 v8 → wH D cs b G I s H locs → lv_has ls 13 [(0, .ref (G.1 0)), (1, .ref (G.1 111)), (2, .ref (G.1 112)), (3, .ref (G.1 113)), (4, .ref (G.1 114)), (5, .int v5), (6, .int v6), (7, .int v7), (8, .int v8)] → W p l e rm_L_isSo s m args below meth c H locs 0 0 (MQ below (va_Qi (fun r I' => I' = I ∧ Q r) (wPo D cs b G) (fun q => b ≤ q)) args s 0 0 (fun q => b ≤ q)) (F0 m 12 ls []) := by
  obtain ⟨hX, hr, hlk, hK, hE⟩ := id C0
  have hx := hX.1
  have hb := hX.2.1
  have hown := hX.2.2.2.1
  have hts := hX.2.2.2.2
  intro f
  induction f with
  | zero =>
    intro v5 v6 v7 v8 H locs ls hq
    exact hq.elim
  | succ f hK12 =>
    intro v5 v6 v7 v8 H locs ls hq hH hl
    have hq : g_L_isSo_12 I Q (v_L_isSo_12 I Q f) v5 v6 v7 v8 := hq
    unfold g_L_isSo_12 at hq
    refine lv_iload hx hb dL_isSo_12 (lv_at hl 8 rfl) ?_
    refine lv_bipush (v := 6) hx hb dL_isSo_14 (by decide) ?_
    refine lv_icmp_ge (tgt := 243) hx hb dL_isSo_16 (by decide) (fun hc => ?_) (fun hc => ?_)
    · have hq := hq.1 hc
      refine lv_aload_n hx hb dL_isSo_243 rfl (lv_at hl 1 rfl) ?_
      refine lv_aload_n hx hb dL_isSo_244 rfl (lv_at hl 3 rfl) ?_
      refine lv_aload hx hb dL_isSo_245 (lv_at hl 4 rfl) ?_
      obtain ⟨hp, hq⟩ := hq
      refine w_cIp hH (w_rS (As := [.ref (G.1 111), .ref (G.1 113), .ref (G.1 114)]) (rest := []) hX hK hE hH (c_L_right (la111 hH.2.2.1)  _ hp) q3_103 q3_104 q1_0 q3_105 hd_L_right.2 ⟨Nat.le_of_ble_eq_true rfl, Nat.le_of_ble_eq_true rfl⟩ ⟨rfl, rfl⟩ rfl hl.1 rfl (Nat.le_of_ble_eq_true rfl) dL_isSo_247 ⟨Nat.zero_le _, Nat.zero_le _⟩) (fun r1  H locs hpo hH => ?_)
      have hq := hq r1  hpo
      refine lv_istore (lv' := [(8, .int r1), (0, .ref (G.1 0)), (1, .ref (G.1 111)), (2, .ref (G.1 112)), (3, .ref (G.1 113)), (4, .ref (G.1 114)), (5, .int v5), (6, .int v6), (7, .int v7)]) hx hb dL_isSo_250 hl (by decide) rfl (fun ls hl => ?_)
      refine lv_aload_n hx hb dL_isSo_252 rfl (lv_at hl 1 rfl) ?_
      refine lv_iconst (v := 0) hx hb dL_isSo_253 (by decide) ?_
      obtain ⟨hp, hq⟩ := hq
      refine w_cIp hH (w_rV (As := [.int (0 : Int32)]) (rest := []) hX hK hE hH (c_X5_count  _ _ hp) ck5 sh0 q2_236 q2_237 q2_238 q1_1 q2_239 hd_X5_count ⟨Nat.le_of_ble_eq_true rfl, Nat.le_of_ble_eq_true rfl⟩ ⟨rfl, rfl⟩ rfl hl.1 rfl (Nat.le_of_ble_eq_true rfl) dL_isSo_254 ⟨Nat.zero_le _, Nat.zero_le _⟩) (fun r2  H locs hpo hH => ?_)
      have hq := hq r2  hpo
      refine lv_aload_n hx hb dL_isSo_257 rfl (lv_at hl 4 rfl) ?_
      refine lv_iconst (v := 0) hx hb dL_isSo_258 (by decide) ?_
      obtain ⟨hc, hq⟩ := hq
      refine w_iald5 hX hK hH (la113 hH.2.2.1) hc dL_isSo_259 ?_
      refine lv_icmp_ne (tgt := 354) hx hb dL_isSo_260 (by decide) (fun hc => ?_) (fun hc => ?_)
      · have hq := hq.1 hc
        exact s_L_isSo_354  C0  v5 r1 _ _ _ hq hH (lv_sub hl [1, 6, 0] rfl)
      · have hq := hq.2 hc
        refine lv_aload_n hx hb dL_isSo_263 rfl (lv_at hl 1 rfl) ?_
        refine lv_iconst (v := 1) hx hb dL_isSo_264 (by decide) ?_
        obtain ⟨hp, hq⟩ := hq
        refine w_cIp hH (w_rV (As := [.int (1 : Int32)]) (rest := []) hX hK hE hH (c_X5_count  _ _ hp) ck5 sh0 q2_236 q2_237 q2_238 q1_1 q2_239 hd_X5_count ⟨Nat.le_of_ble_eq_true rfl, Nat.le_of_ble_eq_true rfl⟩ ⟨rfl, rfl⟩ rfl hl.1 rfl (Nat.le_of_ble_eq_true rfl) dL_isSo_265 ⟨Nat.zero_le _, Nat.zero_le _⟩) (fun r3  H locs hpo hH => ?_)
        have hq := hq r3  hpo
        refine lv_iload hx hb dL_isSo_268 (lv_at hl 6 rfl) ?_
        refine lv_iconst (v := 5) hx hb dL_isSo_270 (by decide) ?_
        refine lv_irem hx hb dL_isSo_271 (by decide) ?_
        refine lv_icmp_ne (tgt := 354) hx hb dL_isSo_272 (by decide) (fun hc => ?_) (fun hc => ?_)
        · have hq := hq.1 hc
          exact s_L_isSo_354  C0  v5 r1 _ _ _ hq hH (lv_sub hl [1, 6, 0] rfl)
        · have hq := hq.2 hc
          refine lv_aload_n hx hb dL_isSo_275 rfl (lv_at hl 1 rfl) ?_
          refine lv_iconst (v := 2) hx hb dL_isSo_276 (by decide) ?_
          obtain ⟨hp, hq⟩ := hq
          refine w_cIp hH (w_rV (As := [.int (2 : Int32)]) (rest := []) hX hK hE hH (c_X5_count  _ _ hp) ck5 sh0 q2_236 q2_237 q2_238 q1_1 q2_239 hd_X5_count ⟨Nat.le_of_ble_eq_true rfl, Nat.le_of_ble_eq_true rfl⟩ ⟨rfl, rfl⟩ rfl hl.1 rfl (Nat.le_of_ble_eq_true rfl) dL_isSo_277 ⟨Nat.zero_le _, Nat.zero_le _⟩) (fun r4  H locs hpo hH => ?_)
          have hq := hq r4  hpo
          refine lv_iload hx hb dL_isSo_280 (lv_at hl 6 rfl) ?_
          refine lv_iconst (v := 5) hx hb dL_isSo_282 (by decide) ?_
          refine lv_irem hx hb dL_isSo_283 (by decide) ?_
          refine lv_icmp_ne (tgt := 354) hx hb dL_isSo_284 (by decide) (fun hc => ?_) (fun hc => ?_)
          · have hq := hq.1 hc
            exact s_L_isSo_354  C0  v5 r1 _ _ _ hq hH (lv_sub hl [1, 6, 0] rfl)
          · have hq := hq.2 hc
            refine lv_aload_n hx hb dL_isSo_287 rfl (lv_at hl 1 rfl) ?_
            refine lv_iconst (v := 3) hx hb dL_isSo_288 (by decide) ?_
            obtain ⟨hp, hq⟩ := hq
            refine w_cIp hH (w_rV (As := [.int (3 : Int32)]) (rest := []) hX hK hE hH (c_X5_count  _ _ hp) ck5 sh0 q2_236 q2_237 q2_238 q1_1 q2_239 hd_X5_count ⟨Nat.le_of_ble_eq_true rfl, Nat.le_of_ble_eq_true rfl⟩ ⟨rfl, rfl⟩ rfl hl.1 rfl (Nat.le_of_ble_eq_true rfl) dL_isSo_289 ⟨Nat.zero_le _, Nat.zero_le _⟩) (fun r5  H locs hpo hH => ?_)
            have hq := hq r5  hpo
            refine lv_iload hx hb dL_isSo_292 (lv_at hl 7 rfl) ?_
            refine lv_icmp_ne (tgt := 354) hx hb dL_isSo_294 (by decide) (fun hc => ?_) (fun hc => ?_)
            · have hq := hq.1 hc
              exact s_L_isSo_354  C0  v5 r1 _ _ _ hq hH (lv_sub hl [1, 6, 0] rfl)
            · have hq := hq.2 hc
              refine lv_aload_n hx hb dL_isSo_297 rfl (lv_at hl 1 rfl) ?_
              refine lv_iconst (v := 4) hx hb dL_isSo_298 (by decide) ?_
              obtain ⟨hp, hq⟩ := hq
              refine w_cIp hH (w_rV (As := [.int (4 : Int32)]) (rest := []) hX hK hE hH (c_X5_count  _ _ hp) ck5 sh0 q2_236 q2_237 q2_238 q1_1 q2_239 hd_X5_count ⟨Nat.le_of_ble_eq_true rfl, Nat.le_of_ble_eq_true rfl⟩ ⟨rfl, rfl⟩ rfl hl.1 rfl (Nat.le_of_ble_eq_true rfl) dL_isSo_299 ⟨Nat.zero_le _, Nat.zero_le _⟩) (fun r6  H locs hpo hH => ?_)
              have hq := hq r6  hpo
              refine lv_iload hx hb dL_isSo_302 (lv_at hl 0 rfl) ?_
              refine lv_bipush (v := 6) hx hb dL_isSo_304 (by decide) ?_
              refine lv_icmp_ne (tgt := 313) hx hb dL_isSo_306 (by decide) (fun hc => ?_) (fun hc => ?_)
              · have hq := hq.1 hc
                refine lv_iconst (v := 0) hx hb dL_isSo_313 (by decide) ?_
                exact s_L_isSo_314  C0  v5 v7 r1 (0 : Int32) r6 _ _ _ hq hH (lv_sub hl [1, 4, 6, 8, 0] rfl)
              · have hq := hq.2 hc
                refine lv_iconst (v := 1) hx hb dL_isSo_309 (by decide) ?_
                refine lv_goto (tgt := 314) hx hb dL_isSo_310 (by decide) ?_
                exact s_L_isSo_314  C0  v5 v7 r1 (1 : Int32) r6 _ _ _ hq hH (lv_sub hl [1, 4, 6, 8, 0] rfl)
    · have hq := hq.2 hc
      refine lv_aload_n hx hb dL_isSo_19 rfl (lv_at hl 1 rfl) ?_
      refine lv_iload hx hb dL_isSo_20 (lv_at hl 8 rfl) ?_
      obtain ⟨hc, hq⟩ := hq
      refine w_iald5 hX hK hH (la111 hH.2.2.1) hc dL_isSo_22 ?_
      refine lv_istore (lv' := [(9, .int (I 111 (v8).toNatClampNeg)), (0, .ref (G.1 0)), (1, .ref (G.1 111)), (2, .ref (G.1 112)), (3, .ref (G.1 113)), (4, .ref (G.1 114)), (5, .int v5), (6, .int v6), (7, .int v7), (8, .int v8)]) hx hb dL_isSo_23 hl (by decide) rfl (fun ls hl => ?_)
      refine lv_aload_n hx hb dL_isSo_25 rfl (lv_at hl 4 rfl) ?_
      refine lv_iconst (v := 2) hx hb dL_isSo_26 (by decide) ?_
      obtain ⟨hc, hq⟩ := hq
      refine w_iald5 hX hK hH (la113 hH.2.2.1) hc dL_isSo_27 ?_
      refine lv_iconst (v := 1) hx hb dL_isSo_28 (by decide) ?_
      refine lv_icmp_ne (tgt := 64) hx hb dL_isSo_29 (by decide) (fun hc => ?_) (fun hc => ?_)
      · have hq := hq.1 hc
        exact s_L_isSo_64  C0 hK12 v5 v6 v7 v8 (I 111 (v8).toNatClampNeg) _ _ _ hq hH (lv_sub hl [1, 2, 3, 4, 5, 6, 7, 8, 9, 0] rfl)
      · have hq := hq.2 hc
        refine lv_aload hx hb dL_isSo_32 (lv_at hl 5 rfl) ?_
        refine lv_iload hx hb dL_isSo_34 (lv_at hl 9 rfl) ?_
        obtain ⟨hc, hq⟩ := hq
        refine w_iald5 hX hK hH (la114 hH.2.2.1) hc dL_isSo_36 ?_
        refine lv_iload hx hb dL_isSo_37 (lv_at hl 0 rfl) ?_
        refine lv_icmp_ne (tgt := 64) hx hb dL_isSo_39 (by decide) (fun hc => ?_) (fun hc => ?_)
        · have hq := hq.1 hc
          exact s_L_isSo_64  C0 hK12 v5 v6 v7 v8 (I 111 (v8).toNatClampNeg) _ _ _ hq hH (lv_sub hl [1, 2, 3, 4, 5, 6, 7, 8, 9, 0] rfl)
        · have hq := hq.2 hc
          refine lv_aload hx hb dL_isSo_42 (lv_at hl 5 rfl) ?_
          refine lv_bipush (v := 6) hx hb dL_isSo_44 (by decide) ?_
          refine lv_iload hx hb dL_isSo_46 (lv_at hl 9 rfl) ?_
          refine lv_iadd hx hb dL_isSo_48 ?_
          obtain ⟨hc, hq⟩ := hq
          refine w_iald5 hX hK hH (la114 hH.2.2.1) hc dL_isSo_49 ?_
          refine lv_aload_n hx hb dL_isSo_50 rfl (lv_at hl 2 rfl) ?_
          refine lv_bipush (v := 6) hx hb dL_isSo_51 (by decide) ?_
          refine lv_iload hx hb dL_isSo_53 (lv_at hl 9 rfl) ?_
          refine lv_iadd hx hb dL_isSo_55 ?_
          obtain ⟨hc, hq⟩ := hq
          refine w_iald5 hX hK hH (la111 hH.2.2.1) hc dL_isSo_56 ?_
          refine lv_icmp_ne (tgt := 64) hx hb dL_isSo_57 (by decide) (fun hc => ?_) (fun hc => ?_)
          · have hq := hq.1 hc
            exact s_L_isSo_64  C0 hK12 v5 v6 v7 v8 (I 111 (v8).toNatClampNeg) _ _ _ hq hH (lv_sub hl [1, 2, 3, 4, 5, 6, 7, 8, 9, 0] rfl)
          · have hq := hq.2 hc
            refine lv_iconst (v := 1) hx hb dL_isSo_60 (by decide) ?_
            refine lv_goto (tgt := 65) hx hb dL_isSo_61 (by decide) ?_
            exact s_L_isSo_65  C0 hK12 v5 v6 v7 v8 (I 111 (v8).toNatClampNeg) (1 : Int32) _ _ _ hq hH (lv_sub hl [1, 2, 3, 4, 5, 6, 7, 8, 9, 0] rfl)
set_option maxRecDepth 100000 in
set_option maxHeartbeats 4000000 in
theorem c_L_isSo {l : Launch} {D : va_G} {cs : wC4} {ad : Nat → Nat} {b : Nat} {G : wG}  (I : wI) (hp : pre_L_isSo  I) : Met l yL_isSo (ws_ yL_isSo cL_isSo 13 (some .boolean)) rm_L_isSo (va_Pc [.ref (G.1 0), .ref (G.1 111), .ref (G.1 112), .ref (G.1 113), .ref (G.1 114)] (wPr D cs ad b G I)) (va_Qi (fun r I' => I' = I ∧ post_L_isSo  I r) (wPo D cs b G) (fun q => b ≤ q)) 0 0 (fun q => b ≤ q) := by
  have hq := vc_L_isSo  I hp
  refine w_met (by decide) (Nat.le_of_ble_eq_true rfl) ?_
  intro p e s m below meth c hX hr hlk hK hE hH ls hl
  have C0 : wCx p m c s _ meth cL_isSo 13 RL (some .boolean) D cs ad b := ⟨hX, hr, hlk, hK, hE⟩
  have hX : CallFix p m c cL_isSo 13 s _ lw_all RL := hX
  have hx := hX.1
  have hb := hX.2.1
  have hown := hX.2.2.2.1
  have hts := hX.2.2.2.2
  have hl : lv_has ls 13 [(0, .ref (G.1 0)), (1, .ref (G.1 111)), (2, .ref (G.1 112)), (3, .ref (G.1 113)), (4, .ref (G.1 114))] := hl
  unfold v_L_isSo at hq
  refine lv_iconst (v := 0) hx hb dL_isSo_0 (by decide) ?_
  refine lv_istore (lv' := [(5, .int (0 : Int32)), (0, .ref (G.1 0)), (1, .ref (G.1 111)), (2, .ref (G.1 112)), (3, .ref (G.1 113)), (4, .ref (G.1 114))]) hx hb dL_isSo_1 hl (by decide) rfl (fun ls hl => ?_)
  refine lv_iconst (v := 0) hx hb dL_isSo_3 (by decide) ?_
  refine lv_istore (lv' := [(6, .int (0 : Int32)), (5, .int (0 : Int32)), (0, .ref (G.1 0)), (1, .ref (G.1 111)), (2, .ref (G.1 112)), (3, .ref (G.1 113)), (4, .ref (G.1 114))]) hx hb dL_isSo_4 hl (by decide) rfl (fun ls hl => ?_)
  refine lv_iconst (v := 0) hx hb dL_isSo_6 (by decide) ?_
  refine lv_istore (lv' := [(7, .int (0 : Int32)), (6, .int (0 : Int32)), (5, .int (0 : Int32)), (0, .ref (G.1 0)), (1, .ref (G.1 111)), (2, .ref (G.1 112)), (3, .ref (G.1 113)), (4, .ref (G.1 114))]) hx hb dL_isSo_7 hl (by decide) rfl (fun ls hl => ?_)
  refine lv_iconst (v := 0) hx hb dL_isSo_9 (by decide) ?_
  refine lv_istore (lv' := [(8, .int (0 : Int32)), (7, .int (0 : Int32)), (6, .int (0 : Int32)), (5, .int (0 : Int32)), (0, .ref (G.1 0)), (1, .ref (G.1 111)), (2, .ref (G.1 112)), (3, .ref (G.1 113)), (4, .ref (G.1 114))]) hx hb dL_isSo_10 hl (by decide) rfl (fun ls hl => ?_)
  obtain ⟨f, hq⟩ := hq
  exact s_L_isSo_12  C0  f (0 : Int32) (0 : Int32) (0 : Int32) (0 : Int32) _ _ _ hq hH (lv_sub hl [4, 5, 6, 7, 8, 3, 2, 1, 0] rfl)
end
