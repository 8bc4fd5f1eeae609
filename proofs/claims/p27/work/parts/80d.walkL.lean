section
variable {p : Program} {l : Launch} {e : Env} {s : State} {m : MethodId} {args : Array Value} {below : List Frame} {meth : Method} {c : Code} {D : va_G} {cs : wC4} {ad : Nat → Nat} {b : Nat} {G B : wG}
abbrev rm_L_isAhead : Room := { frames := 10, cells := 1, slots := 12 * 1, locals := 162 }
theorem hd_L_isAhead : yL_isAhead.cls = RL ∧ yL_isAhead.cls ≠ "java/lang/invoke/MethodHandle" ∧ yL_isAhead.cls ≠ "java/lang/invoke/VarHandle" ∧ (parseMethodDescriptor yL_isAhead.desc).map (fun d => d.parameters.length) = some 6 := by decide +kernel
set_option maxRecDepth 100000 in
set_option maxHeartbeats 4000000 in
theorem s_L_isAhead_341 {x5 : Int32} {Q : Int32 → wI → Prop} (hst : l.stackTraces = false) (hG : G.2 = 116) (hB : ∀ I t, wPo D cs b G I t → wPo D cs b B I t) (C0 : wCx p m c s args meth cL_isAhead 16 RL (some .boolean) D cs ad b) : ∀ (n : Nat) (t0 : Int32) (I : wI) (H : Heap) (locs : List Loc) (ls : Array Slot), v_L_isAhead_341 x5 Q n t0 I → wH D cs b G I s H locs → lv_has ls 16 [] → W p l e rm_L_isAhead s m args below meth c H locs n (12 * n) (MQ below (va_Qi (Q) (wPo D cs b B) (fun q => b ≤ q)) args s 1 (12 * 1) (fun q => b ≤ q)) (F0 m 341 ls [.int t0]) := by
  obtain ⟨hX, hr, hlk, hK, hE⟩ := id C0
  have hx := hX.1
  have hb := hX.2.1
  have hown := hX.2.2.2.1
  have hts := hX.2.2.2.2
  intro n t0 I H locs ls hq hH hl
  unfold v_L_isAhead_341 at hq
  obtain ⟨hn, hq⟩ := hq
  obtain ⟨hz, hq⟩ := hq
  refine W.widen (k := 1) (n := 12 * 1) hn (Nat.mul_le_mul_left 12 hn) ?_
  exact w_eZB hB hz hX hr hlk hH hq dL_isAhead_341
set_option maxRecDepth 100000 in
set_option maxHeartbeats 4000000 in
theorem s_L_isAhead_340 {x5 : Int32} {Q : Int32 → wI → Prop} (hst : l.stackTraces = false) (hG : G.2 = 116) (hB : ∀ I t, wPo D cs b G I t → wPo D cs b B I t) (C0 : wCx p m c s args meth cL_isAhead 16 RL (some .boolean) D cs ad b) : ∀ (n : Nat) (I : wI) (H : Heap) (locs : List Loc) (ls : Array Slot), v_L_isAhead_340 x5 Q n I → wH D cs b G I s H locs → lv_has ls 16 [] → W p l e rm_L_isAhead s m args below meth c H locs n (12 * n) (MQ below (va_Qi (Q) (wPo D cs b B) (fun q => b ≤ q)) args s 1 (12 * 1) (fun q => b ≤ q)) (F0 m 340 ls []) := by
  obtain ⟨hX, hr, hlk, hK, hE⟩ := id C0
  have hx := hX.1
  have hb := hX.2.1
  have hown := hX.2.2.2.1
  have hts := hX.2.2.2.2
  intro n I H locs ls hq hH hl
  unfold v_L_isAhead_340 at hq
  obtain ⟨hn, hq⟩ := hq
  refine lv_iconst (v := 0) hx hb dL_isAhead_340 (by decide) ?_
  exact s_L_isAhead_341 hst hG hB C0  n (0 : Int32) _ _ _ _ hq hH (lv_sub hl [] rfl)
set_option maxRecDepth 100000 in
set_option maxHeartbeats 4000000 in
theorem s_L_isAhead_319 {x5 : Int32} {Q : Int32 → wI → Prop} (hst : l.stackTraces = false) (hG : G.2 = 116) (hB : ∀ I t, wPo D cs b G I t → wPo D cs b B I t) (C0 : wCx p m c s args meth cL_isAhead 16 RL (some .boolean) D cs ad b) : ∀ (n : Nat) (v7 : Int32) (v8 : Int32) (v10 : Int32) (I : wI) (H : Heap) (locs : List Loc) (ls : Array Slot), v_L_isAhead_319 x5 Q n v7 v8 v10 I → wH D cs b G I s H locs → lv_has ls 16 [(0, .ref (G.1 0)), (7, .int v7), (8, .int v8), (10, .int v10)] → W p l e rm_L_isAhead s m args below meth c H locs n (12 * n) (MQ below (va_Qi (Q) (wPo D cs b B) (fun q => b ≤ q)) args s 1 (12 * 1) (fun q => b ≤ q)) (F0 m 319 ls []) := by
  obtain ⟨hX, hr, hlk, hK, hE⟩ := id C0
  have hx := hX.1
  have hb := hX.2.1
  have hown := hX.2.2.2.1
  have hts := hX.2.2.2.2
  intro n v7 v8 v10 I H locs ls hq hH hl
  unfold v_L_isAhead_319 at hq
  obtain ⟨hn, hq⟩ := hq
  refine lv_iload hx hb dL_isAhead_319 (lv_at hl 3 rfl) ?_
  refine lv_iload hx hb dL_isAhead_321 (lv_at hl 1 rfl) ?_
  refine lv_icmp_ne (tgt := 340) hx hb dL_isAhead_323 (by decide) (fun hc => ?_) (fun hc => ?_)
  · have hq := hq.1 hc
    exact s_L_isAhead_340 hst hG hB C0  n _ _ _ _ hq hH (lv_sub hl [] rfl)
  · have hq := hq.2 hc
    refine lv_aload_n hx hb dL_isAhead_326 rfl (lv_at hl 0 rfl) ?_
    refine lv_iconst (v := 1) hx hb dL_isAhead_327 (by decide) ?_
    obtain ⟨hp, hq⟩ := hq
    refine w_cI hH (w_rV (As := [.int (1 : Int32)]) (rest := []) hX hK hE hH (c_X5_openIn  _ _ hp) ck5 sh0 q3_26 q3_27 q3_28 q1_1 q3_29 hd_X5_openIn ⟨Nat.le_of_ble_eq_true rfl, Nat.le_of_ble_eq_true rfl⟩ ⟨rfl, rfl⟩ rfl hl.1 rfl (Nat.le_of_ble_eq_true rfl) dL_isAhead_328 ⟨hn, Nat.mul_le_mul_left 12 hn⟩) (fun r1 I2 H locs hpo hH => ?_)
    have hq := hq r1 I2 hpo
    refine lv_iload hx hb dL_isAhead_331 (lv_at hl 2 rfl) ?_
    refine lv_icmp_ne (tgt := 340) hx hb dL_isAhead_333 (by decide) (fun hc => ?_) (fun hc => ?_)
    · have hq := hq.1 hc
      exact s_L_isAhead_340 hst hG hB C0  n _ _ _ _ hq hH (lv_sub hl [] rfl)
    · have hq := hq.2 hc
      refine lv_iconst (v := 1) hx hb dL_isAhead_336 (by decide) ?_
      refine lv_goto (tgt := 341) hx hb dL_isAhead_337 (by decide) ?_
      exact s_L_isAhead_341 hst hG hB C0  n (1 : Int32) _ _ _ _ hq hH (lv_sub hl [] rfl)
set_option maxRecDepth 100000 in
set_option maxHeartbeats 4000000 in
theorem s_L_isAhead_318 {x5 : Int32} {Q : Int32 → wI → Prop} (hst : l.stackTraces = false) (hG : G.2 = 116) (hB : ∀ I t, wPo D cs b G I t → wPo D cs b B I t) (C0 : wCx p m c s args meth cL_isAhead 16 RL (some .boolean) D cs ad b) : ∀ (n : Nat) (t0 : Int32) (I : wI) (H : Heap) (locs : List Loc) (ls : Array Slot), v_L_isAhead_318 x5 Q n t0 I → wH D cs b G I s H locs → lv_has ls 16 [] → W p l e rm_L_isAhead s m args below meth c H locs n (12 * n) (MQ below (va_Qi (Q) (wPo D cs b B) (fun q => b ≤ q)) args s 1 (12 * 1) (fun q => b ≤ q)) (F0 m 318 ls [.int t0]) := by
  obtain ⟨hX, hr, hlk, hK, hE⟩ := id C0
  have hx := hX.1
  have hb := hX.2.1
  have hown := hX.2.2.2.1
  have hts := hX.2.2.2.2
  intro n t0 I H locs ls hq hH hl
  unfold v_L_isAhead_318 at hq
  obtain ⟨hn, hq⟩ := hq
  obtain ⟨hz, hq⟩ := hq
  refine W.widen (k := 1) (n := 12 * 1) hn (Nat.mul_le_mul_left 12 hn) ?_
  exact w_eZB hB hz hX hr hlk hH hq dL_isAhead_318
set_option maxRecDepth 100000 in
set_option maxHeartbeats 4000000 in
theorem s_L_isAhead_313 {x5 : Int32} {Q : Int32 → wI → Prop} (hst : l.stackTraces = false) (hG : G.2 = 116) (hB : ∀ I t, wPo D cs b G I t → wPo D cs b B I t) (C0 : wCx p m c s args meth cL_isAhead 16 RL (some .boolean) D cs ad b) : ∀ (n : Nat) (I : wI) (H : Heap) (locs : List Loc) (ls : Array Slot), v_L_isAhead_313 x5 Q n I → wH D cs b G I s H locs → lv_has ls 16 [] → W p l e rm_L_isAhead s m args below meth c H locs n (12 * n) (MQ below (va_Qi (Q) (wPo D cs b B) (fun q => b ≤ q)) args s 1 (12 * 1) (fun q => b ≤ q)) (F0 m 313 ls []) := by
  obtain ⟨hX, hr, hlk, hK, hE⟩ := id C0
  have hx := hX.1
  have hb := hX.2.1
  have hown := hX.2.2.2.1
  have hts := hX.2.2.2.2
  intro n I H locs ls hq hH hl
  unfold v_L_isAhead_313 at hq
  obtain ⟨hn, hq⟩ := hq
  refine lv_iconst (v := 1) hx hb dL_isAhead_313 (by decide) ?_
  refine lv_goto (tgt := 318) hx hb dL_isAhead_314 (by decide) ?_
  exact s_L_isAhead_318 hst hG hB C0  n (1 : Int32) _ _ _ _ hq hH (lv_sub hl [] rfl)
set_option maxRecDepth 100000 in
set_option maxHeartbeats 4000000 in
theorem s_L_isAhead_275 {x5 : Int32} {Q : Int32 → wI → Prop} (hst : l.stackTraces = false) (hG : G.2 = 116) (hB : ∀ I t, wPo D cs b G I t → wPo D cs b B I t) (C0 : wCx p m c s args meth cL_isAhead 16 RL (some .boolean) D cs ad b) : ∀ (n : Nat) (v7 : Int32) (v8 : Int32) (I : wI) (H : Heap) (locs : List Loc) (ls : Array Slot), v_L_isAhead_275 x5 Q n v7 v8 I → wH D cs b G I s H locs → lv_has ls 16 [(0, .ref (G.1 0)), (3, .ref (G.1 113)), (5, .int x5), (7, .int v7), (8, .int v8)] → W p l e rm_L_isAhead s m args below meth c H locs n (12 * n) (MQ below (va_Qi (Q) (wPo D cs b B) (fun q => b ≤ q)) args s 1 (12 * 1) (fun q => b ≤ q)) (F0 m 275 ls []) := by
  obtain ⟨hX, hr, hlk, hK, hE⟩ := id C0
  have hx := hX.1
  have hb := hX.2.1
  have hown := hX.2.2.2.1
  have hts := hX.2.2.2.2
  intro n v7 v8 I H locs ls hq hH hl
  unfold v_L_isAhead_275 at hq
  obtain ⟨hn, hq⟩ := hq
  refine lv_aload_n hx hb dL_isAhead_275 rfl (lv_at hl 0 rfl) ?_
  refine lv_iconst (v := 0) hx hb dL_isAhead_276 (by decide) ?_
  obtain ⟨hp, hq⟩ := hq
  refine w_cI hH (w_rV (As := [.int (0 : Int32)]) (rest := []) hX hK hE hH (c_X5_openIn  _ _ hp) ck5 sh0 q3_26 q3_27 q3_28 q1_1 q3_29 hd_X5_openIn ⟨Nat.le_of_ble_eq_true rfl, Nat.le_of_ble_eq_true rfl⟩ ⟨rfl, rfl⟩ rfl hl.1 rfl (Nat.le_of_ble_eq_true rfl) dL_isAhead_277 ⟨hn, Nat.mul_le_mul_left 12 hn⟩) (fun r1 I2 H locs hpo hH => ?_)
  have hq := hq r1 I2 hpo
  refine lv_istore (lv' := [(10, .int r1), (0, .ref (G.1 0)), (3, .ref (G.1 113)), (5, .int x5), (7, .int v7), (8, .int v8)]) hx hb dL_isAhead_280 hl (by decide) rfl (fun ls hl => ?_)
  refine lv_iload hx hb dL_isAhead_282 (lv_at hl 4 rfl) ?_
  refine lv_if_ge (tgt := 319) hx hb dL_isAhead_284 (by decide) (fun hc => ?_) (fun hc => ?_)
  · have hq := hq.1 hc
    exact s_L_isAhead_319 hst hG hB C0  n v7 v8 r1 _ _ _ _ hq hH (lv_sub hl [1, 4, 5, 0] rfl)
  · have hq := hq.2 hc
    refine lv_aload_n hx hb dL_isAhead_287 rfl (lv_at hl 2 rfl) ?_
    refine lv_iconst (v := 2) hx hb dL_isAhead_288 (by decide) ?_
    obtain ⟨hc, hq⟩ := hq
    refine w_iald5 hX hK hH (la113 hH.2.2.1) hc dL_isAhead_289 ?_
    refine lv_iconst (v := 1) hx hb dL_isAhead_290 (by decide) ?_
    refine lv_icmp_ne (tgt := 319) hx hb dL_isAhead_291 (by decide) (fun hc => ?_) (fun hc => ?_)
    · have hq := hq.1 hc
      exact s_L_isAhead_319 hst hG hB C0  n v7 v8 r1 _ _ _ _ hq hH (lv_sub hl [1, 4, 5, 0] rfl)
    · have hq := hq.2 hc
      refine lv_iload hx hb dL_isAhead_294 (lv_at hl 3 rfl) ?_
      refine lv_iconst (v := 4) hx hb dL_isAhead_296 (by decide) ?_
      refine lv_icmp_ge (tgt := 319) hx hb dL_isAhead_297 (by decide) (fun hc => ?_) (fun hc => ?_)
      · have hq := hq.1 hc
        exact s_L_isAhead_319 hst hG hB C0  n v7 v8 r1 _ _ _ _ hq hH (lv_sub hl [1, 4, 5, 0] rfl)
      · have hq := hq.2 hc
        refine lv_iload hx hb dL_isAhead_300 (lv_at hl 0 rfl) ?_
        refine lv_iconst (v := -1) hx hb dL_isAhead_302 (by decide) ?_
        refine lv_icmp_eq (tgt := 313) hx hb dL_isAhead_303 (by decide) (fun hc => ?_) (fun hc => ?_)
        · have hq := hq.1 hc
          exact s_L_isAhead_313 hst hG hB C0  n _ _ _ _ hq hH (lv_sub hl [] rfl)
        · have hq := hq.2 hc
          refine lv_iload hx hb dL_isAhead_306 (lv_at hl 0 rfl) ?_
          refine lv_iload hx hb dL_isAhead_308 (lv_at hl 3 rfl) ?_
          refine lv_icmp_le (tgt := 317) hx hb dL_isAhead_310 (by decide) (fun hc => ?_) (fun hc => ?_)
          · have hq := hq.1 hc
            refine lv_iconst (v := 0) hx hb dL_isAhead_317 (by decide) ?_
            exact s_L_isAhead_318 hst hG hB C0  n (0 : Int32) _ _ _ _ hq hH (lv_sub hl [] rfl)
          · have hq := hq.2 hc
            exact s_L_isAhead_313 hst hG hB C0  n _ _ _ _ hq hH (lv_sub hl [] rfl)
set_option maxRecDepth 100000 in
set_option maxHeartbeats 4000000 in
theorem s_L_isAhead_269 {x5 : Int32} {Q : Int32 → wI → Prop} {K95 : Nat → Int32 → Int32 → Int32 → Int32 → wI → Prop} (hst : l.stackTraces = false) (hG : G.2 = 116) (hB : ∀ I t, wPo D cs b G I t → wPo D cs b B I t) (C0 : wCx p m c s args meth cL_isAhead 16 RL (some .boolean) D cs ad b) (hK95 : ∀ (n : Nat) (v7 : Int32) (v8 : Int32) (v9 : Int32) (v10 : Int32) (I : wI) (H : Heap) (locs : List Loc) (ls : Array Slot), K95 n v7 v8 v9 v10 I → wH D cs b G I s H locs → lv_has ls 16 [(0, .ref (G.1 0)), (1, .ref (G.1 111)), (2, .ref (G.1 112)), (3, .ref (G.1 113)), (4, .ref (G.1 114)), (5, .int x5), (6, .ref (G.1 115)), (7, .int v7), (8, .int v8), (9, .int v9), (10, .int v10)] → W p l e rm_L_isAhead s m args below meth c H locs n (12 * n) (MQ below (va_Qi (Q) (wPo D cs b B) (fun q => b ≤ q)) args s 1 (12 * 1) (fun q => b ≤ q)) (F0 m 95 ls [])) : ∀ (n : Nat) (v7 : Int32) (v8 : Int32) (v9 : Int32) (v10 : Int32) (I : wI) (H : Heap) (locs : List Loc) (ls : Array Slot), v_L_isAhead_269 x5 Q K95 n v7 v8 v9 v10 I → wH D cs b G I s H locs → lv_has ls 16 [(0, .ref (G.1 0)), (1, .ref (G.1 111)), (2, .ref (G.1 112)), (3, .ref (G.1 113)), (4, .ref (G.1 114)), (5, .int x5), (6, .ref (G.1 115)), (7, .int v7), (8, .int v8), (9, .int v9), (10, .int v10)] → W p l e rm_L_isAhead s m args below meth c H locs n (12 * n) (MQ below (va_Qi (Q) (wPo D cs b B) (fun q => b ≤ q)) args s 1 (12 * 1) (fun q => b ≤ q)) (F0 m 269 ls []) := by
  obtain ⟨hX, hr, hlk, hK, hE⟩ := id C0
  have hx := hX.1
  have hb := hX.2.1
  have hown := hX.2.2.2.1
  have hts := hX.2.2.2.2
  intro n v7 v8 v9 v10 I H locs ls hq hH hl
  unfold v_L_isAhead_269 at hq
  obtain ⟨hn, hq⟩ := hq
  refine lv_iinc (v := (v10 + (1 : Int32))) (lv' := [(10, .int (v10 + (1 : Int32))), (0, .ref (G.1 0)), (1, .ref (G.1 111)), (2, .ref (G.1 112)), (3, .ref (G.1 113)), (4, .ref (G.1 114)), (5, .int x5), (6, .ref (G.1 115)), (7, .int v7), (8, .int v8), (9, .int v9)]) hx hb dL_isAhead_269 hl (k := 10) rfl rfl (by decide) rfl (fun ls hl => ?_)
  refine lv_goto (tgt := 95) hx hb dL_isAhead_272 (by decide) ?_
  exact hK95 n v7 v8 v9 (v10 + (1 : Int32)) _ _ _ _ hq hH (lv_sub hl [1, 2, 3, 4, 5, 6, 7, 8, 9, 10, 0] rfl)
set_option maxRecDepth 100000 in
set_option maxHeartbeats 4000000 in
theorem s_L_isAhead_263 {x5 : Int32} {Q : Int32 → wI → Prop} {K95 : Nat → Int32 → Int32 → Int32 → Int32 → wI → Prop} {K124 : Nat → Int32 → Int32 → Int32 → Int32 → Int32 → wI → Prop} (hst : l.stackTraces = false) (hG : G.2 = 116) (hB : ∀ I t, wPo D cs b G I t → wPo D cs b B I t) (C0 : wCx p m c s args meth cL_isAhead 16 RL (some .boolean) D cs ad b) (hK95 : ∀ (n : Nat) (v7 : Int32) (v8 : Int32) (v9 : Int32) (v10 : Int32) (I : wI) (H : Heap) (locs : List Loc) (ls : Array Slot), K95 n v7 v8 v9 v10 I → wH D cs b G I s H locs → lv_has ls 16 [(0, .ref (G.1 0)), (1, .ref (G.1 111)), (2, .ref (G.1 112)), (3, .ref (G.1 113)), (4, .ref (G.1 114)), (5, .int x5), (6, .ref (G.1 115)), (7, .int v7), (8, .int v8), (9, .int v9), (10, .int v10)] → W p l e rm_L_isAhead s m args below meth c H locs n (12 * n) (MQ below (va_Qi (Q) (wPo D cs b B) (fun q => b ≤ q)) args s 1 (12 * 1) (fun q => b ≤ q)) (F0 m 95 ls [])) (hK124 : ∀ (n : Nat) (v7 : Int32) (v8 : Int32) (v9 : Int32) (v10 : Int32) (v11 : Int32) (I : wI) (H : Heap) (locs : List Loc) (ls : Array Slot), K124 n v7 v8 v9 v10 v11 I → wH D cs b G I s H locs → lv_has ls 16 [(0, .ref (G.1 0)), (1, .ref (G.1 111)), (2, .ref (G.1 112)), (3, .ref (G.1 113)), (4, .ref (G.1 114)), (5, .int x5), (6, .ref (G.1 115)), (7, .int v7), (8, .int v8), (9, .int v9), (10, .int v10), (11, .int v11)] → W p l e rm_L_isAhead s m args below meth c H locs n (12 * n) (MQ below (va_Qi (Q) (wPo D cs b B) (fun q => b ≤ q)) args s 1 (12 * 1) (fun q => b ≤ q)) (F0 m 124 ls [])) : ∀ (n : Nat) (v7 : Int32) (v8 : Int32) (v9 : Int32) (v10 : Int32) (v11 : Int32) (I : wI) (H : Heap) (locs : List Loc) (ls : Array Slot), v_L_isAhead_263 x5 Q K95 K124 n v7 v8 v9 v10 v11 I → wH D cs b G I s H locs → lv_has ls 16 [(0, .ref (G.1 0)), (1, .ref (G.1 111)), (2, .ref (G.1 112)), (3, .ref (G.1 113)), (4, .ref (G.1 114)), (5, .int x5), (6, .ref (G.1 115)), (7, .int v7), (8, .int v8), (9, .int v9), (10, .int v10), (11, .int v11)] → W p l e rm_L_isAhead s m args below meth c H locs n (12 * n) (MQ below (va_Qi (Q) (wPo D cs b B) (fun q => b ≤ q)) args s 1 (12 * 1) (fun q => b ≤ q)) (F0 m 263 ls []) := by
  obtain ⟨hX, hr, hlk, hK, hE⟩ := id C0
  have hx := hX.1
  have hb := hX.2.1
  have hown := hX.2.2.2.1
  have hts := hX.2.2.2.2
  intro n v7 v8 v9 v10 v11 I H locs ls hq hH hl
  unfold v_L_isAhead_263 at hq
  obtain ⟨hn, hq⟩ := hq
  refine lv_iinc (v := (v11 + (1 : Int32))) (lv' := [(11, .int (v11 + (1 : Int32))), (0, .ref (G.1 0)), (1, .ref (G.1 111)), (2, .ref (G.1 112)), (3, .ref (G.1 113)), (4, .ref (G.1 114)), (5, .int x5), (6, .ref (G.1 115)), (7, .int v7), (8, .int v8), (9, .int v9), (10, .int v10)]) hx hb dL_isAhead_263 hl (k := 11) rfl rfl (by decide) rfl (fun ls hl => ?_)
  refine lv_goto (tgt := 124) hx hb dL_isAhead_266 (by decide) ?_
  exact hK124 n v7 v8 v9 v10 (v11 + (1 : Int32)) _ _ _ _ hq hH (lv_sub hl [1, 2, 3, 4, 5, 6, 7, 8, 9, 10, 11, 0] rfl)
set_option maxRecDepth 100000 in
set_option maxHeartbeats 4000000 in
theorem s_L_isAhead_220 {x5 : Int32} {Q : Int32 → wI → Prop} {K95 : Nat → Int32 → Int32 → Int32 → Int32 → wI → Prop} {K124 : Nat → Int32 → Int32 → Int32 → Int32 → Int32 → wI → Prop} {K155 : Nat → Int32 → Int32 → Int32 → Int32 → Int32 → Int32 → Int32 → Int32 → wI → Prop} (hst : l.stackTraces = false) (hG : G.2 = 116) (hB : ∀ I t, wPo D cs b G I t → wPo D cs b B I t) (C0 : wCx p m c s args meth cL_isAhead 16 RL (some .boolean) D cs ad b) (hK95 : ∀ (n : Nat) (v7 : Int32) (v8 : Int32) (v9 : Int32) (v10 : Int32) (I : wI) (H : Heap) (locs : List Loc) (ls : Array Slot), K95 n v7 v8 v9 v10 I → wH D cs b G I s H locs → lv_has ls 16 [(0, .ref (G.1 0)), (1, .ref (G.1 111)), (2, .ref (G.1 112)), (3, .ref (G.1 113)), (4, .ref (G.1 114)), (5, .int x5), (6, .ref (G.1 115)), (7, .int v7), (8, .int v8), (9, .int v9), (10, .int v10)] → W p l e rm_L_isAhead s m args below meth c H locs n (12 * n) (MQ below (va_Qi (Q) (wPo D cs b B) (fun q => b ≤ q)) args s 1 (12 * 1) (fun q => b ≤ q)) (F0 m 95 ls [])) (hK124 : ∀ (n : Nat) (v7 : Int32) (v8 : Int32) (v9 : Int32) (v10 : Int32) (v11 : Int32) (I : wI) (H : Heap) (locs : List Loc) (ls : Array Slot), K124 n v7 v8 v9 v10 v11 I → wH D cs b G I s H locs → lv_has ls 16 [(0, .ref (G.1 0)), (1, .ref (G.1 111)), (2, .ref (G.1 112)), (3, .ref (G.1 113)), (4, .ref (G.1 114)), (5, .int x5), (6, .ref (G.1 115)), (7, .int v7), (8, .int v8), (9, .int v9), (10, .int v10), (11, .int v11)] → W p l e rm_L_isAhead s m args below meth c H locs n (12 * n) (MQ below (va_Qi (Q) (wPo D cs b B) (fun q => b ≤ q)) args s 1 (12 * 1) (fun q => b ≤ q)) (F0 m 124 ls [])) (hK155 : ∀ (n : Nat) (v7 : Int32) (v8 : Int32) (v9 : Int32) (v10 : Int32) (v11 : Int32) (v12 : Int32) (v13 : Int32) (v14 : Int32) (I : wI) (H : Heap) (locs : List Loc) (ls : Array Slot), K155 n v7 v8 v9 v10 v11 v12 v13 v14 I → wH D cs b G I s H locs → lv_has ls 16 [(0, .ref (G.1 0)), (1, .ref (G.1 111)), (2, .ref (G.1 112)), (3, .ref (G.1 113)), (4, .ref (G.1 114)), (5, .int x5), (6, .ref (G.1 115)), (7, .int v7), (8, .int v8), (9, .int v9), (10, .int v10), (11, .int v11), (12, .int v12), (13, .int v13), (14, .int v14)] → W p l e rm_L_isAhead s m args below meth c H locs n (12 * n) (MQ below (va_Qi (Q) (wPo D cs b B) (fun q => b ≤ q)) args s 1 (12 * 1) (fun q => b ≤ q)) (F0 m 155 ls [])) : ∀ (n : Nat) (v7 : Int32) (v8 : Int32) (v9 : Int32) (v10 : Int32) (v11 : Int32) (v12 : Int32) (v14 : Int32) (t0 : Int32) (I : wI) (H : Heap) (locs : List Loc) (ls : Array Slot), v_L_isAhead_220 x5 Q K95 K124 K155 n v7 v8 v9 v10 v11 v12 v14 t0 I → wH D cs b G I s H locs → lv_has ls 16 [(0, .ref (G.1 0)), (1, .ref (G.1 111)), (2, .ref (G.1 112)), (3, .ref (G.1 113)), (4, .ref (G.1 114)), (5, .int x5), (6, .ref (G.1 115)), (7, .int v7), (8, .int v8), (9, .int v9), (10, .int v10), (11, .int v11), (12, .int v12), (14, .int v14)] → W p l e rm_L_isAhead s m args below meth c H locs n (12 * n) (MQ below (va_Qi (Q) (wPo D cs b B) (fun q => b ≤ q)) args s 1 (12 * 1) (fun q => b ≤ q)) (F0 m 220 ls [.int t0]) := by
  obtain ⟨hX, hr, hlk, hK, hE⟩ := id C0
  have hx := hX.1
  have hb := hX.2.1
  have hown := hX.2.2.2.1
  have hts := hX.2.2.2.2
  intro n v7 v8 v9 v10 v11 v12 v14 t0 I H locs ls hq hH hl
  unfold v_L_isAhead_220 at hq
  obtain ⟨hn, hq⟩ := hq
  refine lv_istore (lv' := [(13, .int t0), (0, .ref (G.1 0)), (1, .ref (G.1 111)), (2, .ref (G.1 112)), (3, .ref (G.1 113)), (4, .ref (G.1 114)), (5, .int x5), (6, .ref (G.1 115)), (7, .int v7), (8, .int v8), (9, .int v9), (10, .int v10), (11, .int v11), (12, .int v12), (14, .int v14)]) hx hb dL_isAhead_220 hl (by decide) rfl (fun ls hl => ?_)
  refine lv_iinc (v := (v14 + (1 : Int32))) (lv' := [(14, .int (v14 + (1 : Int32))), (13, .int t0), (0, .ref (G.1 0)), (1, .ref (G.1 111)), (2, .ref (G.1 112)), (3, .ref (G.1 113)), (4, .ref (G.1 114)), (5, .int x5), (6, .ref (G.1 115)), (7, .int v7), (8, .int v8), (9, .int v9), (10, .int v10), (11, .int v11), (12, .int v12)]) hx hb dL_isAhead_222 hl (k := 14) rfl rfl (by decide) rfl (fun ls hl => ?_)
  refine lv_goto (tgt := 155) hx hb dL_isAhead_225 (by decide) ?_
  exact hK155 n v7 v8 v9 v10 v11 v12 t0 (v14 + (1 : Int32)) _ _ _ _ hq hH (lv_sub hl [2, 3, 4, 5, 6, 7, 8, 9, 10, 11, 12, 13, 14, 1, 0] rfl)
set_option maxRecDepth 100000 in
set_option maxHeartbeats 4000000 in
theorem s_L_isAhead_195 {x5 : Int32} {Q : Int32 → wI → Prop} {K95 : Nat → Int32 → Int32 → Int32 → Int32 → wI → Prop} {K124 : Nat → Int32 → Int32 → Int32 → Int32 → Int32 → wI → Prop} {K155 : Nat → Int32 → Int32 → Int32 → Int32 → Int32 → Int32 → Int32 → Int32 → wI → Prop} (hst : l.stackTraces = false) (hG : G.2 = 116) (hB : ∀ I t, wPo D cs b G I t → wPo D cs b B I t) (C0 : wCx p m c s args meth cL_isAhead 16 RL (some .boolean) D cs ad b) (hK95 : ∀ (n : Nat) (v7 : Int32) (v8 : Int32) (v9 : Int32) (v10 : Int32) (I : wI) (H : Heap) (locs : List Loc) (ls : Array Slot), K95 n v7 v8 v9 v10 I → wH D cs b G I s H locs → lv_has ls 16 [(0, .ref (G.1 0)), (1, .ref (G.1 111)), (2, .ref (G.1 112)), (3, .ref (G.1 113)), (4, .ref (G.1 114)), (5, .int x5), (6, .ref (G.1 115)), (7, .int v7), (8, .int v8), (9, .int v9), (10, .int v10)] → W p l e rm_L_isAhead s m args below meth c H locs n (12 * n) (MQ below (va_Qi (Q) (wPo D cs b B) (fun q => b ≤ q)) args s 1 (12 * 1) (fun q => b ≤ q)) (F0 m 95 ls [])) (hK124 : ∀ (n : Nat) (v7 : Int32) (v8 : Int32) (v9 : Int32) (v10 : Int32) (v11 : Int32) (I : wI) (H : Heap) (locs : List Loc) (ls : Array Slot), K124 n v7 v8 v9 v10 v11 I → wH D cs b G I s H locs → lv_has ls 16 [(0, .ref (G.1 0)), (1, .ref (G.1 111)), (2, .ref (G.1 112)), (3, .ref (G.1 113)), (4, .ref (G.1 114)), (5, .int x5), (6, .ref (G.1 115)), (7, .int v7), (8, .int v8), (9, .int v9), (10, .int v10), (11, .int v11)] → W p l e rm_L_isAhead s m args below meth c H locs n (12 * n) (MQ below (va_Qi (Q) (wPo D cs b B) (fun q => b ≤ q)) args s 1 (12 * 1) (fun q => b ≤ q)) (F0 m 124 ls [])) (hK155 : ∀ (n : Nat) (v7 : Int32) (v8 : Int32) (v9 : Int32) (v10 : Int32) (v11 : Int32) (v12 : Int32) (v13 : Int32) (v14 : Int32) (I : wI) (H : Heap) (locs : List Loc) (ls : Array Slot), K155 n v7 v8 v9 v10 v11 v12 v13 v14 I → wH D cs b G I s H locs → lv_has ls 16 [(0, .ref (G.1 0)), (1, .ref (G.1 111)), (2, .ref (G.1 112)), (3, .ref (G.1 113)), (4, .ref (G.1 114)), (5, .int x5), (6, .ref (G.1 115)), (7, .int v7), (8, .int v8), (9, .int v9), (10, .int v10), (11, .int v11), (12, .int v12), (13, .int v13), (14, .int v14)] → W p l e rm_L_isAhead s m args below meth c H locs n (12 * n) (MQ below (va_Qi (Q) (wPo D cs b B) (fun q => b ≤ q)) args s 1 (12 * 1) (fun q => b ≤ q)) (F0 m 155 ls [])) : ∀ (n : Nat) (v7 : Int32) (v8 : Int32) (v9 : Int32) (v10 : Int32) (v11 : Int32) (v13 : Int32) (v14 : Int32) (v15 : Int32) (t0 : Int32) (I : wI) (H : Heap) (locs : List Loc) (ls : Array Slot), v_L_isAhead_195 x5 Q K95 K124 K155 n v7 v8 v9 v10 v11 v13 v14 v15 t0 I → wH D cs b G I s H locs → lv_has ls 16 [(0, .ref (G.1 0)), (1, .ref (G.1 111)), (2, .ref (G.1 112)), (3, .ref (G.1 113)), (4, .ref (G.1 114)), (5, .int x5), (6, .ref (G.1 115)), (7, .int v7), (8, .int v8), (9, .int v9), (10, .int v10), (11, .int v11), (13, .int v13), (14, .int v14), (15, .int v15)] → W p l e rm_L_isAhead s m args below meth c H locs n (12 * n) (MQ below (va_Qi (Q) (wPo D cs b B) (fun q => b ≤ q)) args s 1 (12 * 1) (fun q => b ≤ q)) (F0 m 195 ls [.int t0]) := by
  obtain ⟨hX, hr, hlk, hK, hE⟩ := id C0
  have hx := hX.1
  have hb := hX.2.1
  have hown := hX.2.2.2.1
  have hts := hX.2.2.2.2
  intro n v7 v8 v9 v10 v11 v13 v14 v15 t0 I H locs ls hq hH hl
  unfold v_L_isAhead_195 at hq
  obtain ⟨hn, hq⟩ := hq
  refine lv_istore (lv' := [(12, .int t0), (0, .ref (G.1 0)), (1, .ref (G.1 111)), (2, .ref (G.1 112)), (3, .ref (G.1 113)), (4, .ref (G.1 114)), (5, .int x5), (6, .ref (G.1 115)), (7, .int v7), (8, .int v8), (9, .int v9), (10, .int v10), (11, .int v11), (13, .int v13), (14, .int v14), (15, .int v15)]) hx hb dL_isAhead_195 hl (by decide) rfl (fun ls hl => ?_)
  refine lv_aload hx hb dL_isAhead_197 (lv_at hl 7 rfl) ?_
  refine lv_aload_n hx hb dL_isAhead_199 rfl (lv_at hl 3 rfl) ?_
  refine lv_iload hx hb dL_isAhead_200 (lv_at hl 15 rfl) ?_
  obtain ⟨hp, hq⟩ := hq
  refine w_cV hH (w_rS (As := [.ref (G.1 115), .ref (G.1 112), .int v15]) (rest := []) hX hK hE hH (c_L_doTurn (la115 (Nat.le_of_eq hG.symm)) _ _ hp) q3_87 q3_88 q1_0 q3_89 hd_L_doTurn.2 ⟨Nat.le_of_ble_eq_true rfl, Nat.le_of_ble_eq_true rfl⟩ ⟨rfl, rfl⟩ rfl hl.1 rfl (Nat.le_of_ble_eq_true rfl) dL_isAhead_202 ⟨hn, Nat.mul_le_mul_left 12 hn⟩) (fun  I1 H locs hpo hH => ?_)
  have hq := hq  I1 hpo
  refine lv_iload hx hb dL_isAhead_205 (lv_at hl 13 rfl) ?_
  refine lv_iconst (v := 1) hx hb dL_isAhead_207 (by decide) ?_
  refine lv_icmp_le (tgt := 219) hx hb dL_isAhead_208 (by decide) (fun hc => ?_) (fun hc => ?_)
  · have hq := hq.1 hc
    refine lv_iconst (v := 1) hx hb dL_isAhead_219 (by decide) ?_
    exact s_L_isAhead_220 hst hG hB C0 hK95 hK124 hK155 n v7 v8 v9 v10 v11 t0 v14 (1 : Int32) _ _ _ _ hq hH (lv_sub hl [1, 2, 3, 4, 5, 6, 7, 8, 9, 10, 11, 12, 0, 14] rfl)
  · have hq := hq.2 hc
    refine lv_iload hx hb dL_isAhead_211 (lv_at hl 13 rfl) ?_
    refine lv_bipush (v := 10) hx hb dL_isAhead_213 (by decide) ?_
    refine lv_idiv hx hb dL_isAhead_215 (by decide) ?_
    refine lv_goto (tgt := 220) hx hb dL_isAhead_216 (by decide) ?_
    exact s_L_isAhead_220 hst hG hB C0 hK95 hK124 hK155 n v7 v8 v9 v10 v11 t0 v14 (v13 / (10 : Int32)) _ _ _ _ hq hH (lv_sub hl [1, 2, 3, 4, 5, 6, 7, 8, 9, 10, 11, 12, 0, 14] rfl)
set_option maxRecDepth 100000 in
set_option maxHeartbeats 4000000 in
theorem s_L_isAhead_194 {x5 : Int32} {Q : Int32 → wI → Prop} {K95 : Nat → Int32 → Int32 → Int32 → Int32 → wI → Prop} {K124 : Nat → Int32 → Int32 → Int32 → Int32 → Int32 → wI → Prop} {K155 : Nat → Int32 → Int32 → Int32 → Int32 → Int32 → Int32 → Int32 → Int32 → wI → Prop} (hst : l.stackTraces = false) (hG : G.2 = 116) (hB : ∀ I t, wPo D cs b G I t → wPo D cs b B I t) (C0 : wCx p m c s args meth cL_isAhead 16 RL (some .boolean) D cs ad b) (hK95 : ∀ (n : Nat) (v7 : Int32) (v8 : Int32) (v9 : Int32) (v10 : Int32) (I : wI) (H : Heap) (locs : List Loc) (ls : Array Slot), K95 n v7 v8 v9 v10 I → wH D cs b G I s H locs → lv_has ls 16 [(0, .ref (G.1 0)), (1, .ref (G.1 111)), (2, .ref (G.1 112)), (3, .ref (G.1 113)), (4, .ref (G.1 114)), (5, .int x5), (6, .ref (G.1 115)), (7, .int v7), (8, .int v8), (9, .int v9), (10, .int v10)] → W p l e rm_L_isAhead s m args below meth c H locs n (12 * n) (MQ below (va_Qi (Q) (wPo D cs b B) (fun q => b ≤ q)) args s 1 (12 * 1) (fun q => b ≤ q)) (F0 m 95 ls [])) (hK124 : ∀ (n : Nat) (v7 : Int32) (v8 : Int32) (v9 : Int32) (v10 : Int32) (v11 : Int32) (I : wI) (H : Heap) (locs : List Loc) (ls : Array Slot), K124 n v7 v8 v9 v10 v11 I → wH D cs b G I s H locs → lv_has ls 16 [(0, .ref (G.1 0)), (1, .ref (G.1 111)), (2, .ref (G.1 112)), (3, .ref (G.1 113)), (4, .ref (G.1 114)), (5, .int x5), (6, .ref (G.1 115)), (7, .int v7), (8, .int v8), (9, .int v9), (10, .int v10), (11, .int v11)] → W p l e rm_L_isAhead s m args below meth c H locs n (12 * n) (MQ below (va_Qi (Q) (wPo D cs b B) (fun q => b ≤ q)) args s 1 (12 * 1) (fun q => b ≤ q)) (F0 m 124 ls [])) (hK155 : ∀ (n : Nat) (v7 : Int32) (v8 : Int32) (v9 : Int32) (v10 : Int32) (v11 : Int32) (v12 : Int32) (v13 : Int32) (v14 : Int32) (I : wI) (H : Heap) (locs : List Loc) (ls : Array Slot), K155 n v7 v8 v9 v10 v11 v12 v13 v14 I → wH D cs b G I s H locs → lv_has ls 16 [(0, .ref (G.1 0)), (1, .ref (G.1 111)), (2, .ref (G.1 112)), (3, .ref (G.1 113)), (4, .ref (G.1 114)), (5, .int x5), (6, .ref (G.1 115)), (7, .int v7), (8, .int v8), (9, .int v9), (10, .int v10), (11, .int v11), (12, .int v12), (13, .int v13), (14, .int v14)] → W p l e rm_L_isAhead s m args below meth c H locs n (12 * n) (MQ below (va_Qi (Q) (wPo D cs b B) (fun q => b ≤ q)) args s 1 (12 * 1) (fun q => b ≤ q)) (F0 m 155 ls [])) : ∀ (n : Nat) (v7 : Int32) (v8 : Int32) (v9 : Int32) (v10 : Int32) (v11 : Int32) (v13 : Int32) (v14 : Int32) (v15 : Int32) (I : wI) (H : Heap) (locs : List Loc) (ls : Array Slot), v_L_isAhead_194 x5 Q K95 K124 K155 n v7 v8 v9 v10 v11 v13 v14 v15 I → wH D cs b G I s H locs → lv_has ls 16 [(0, .ref (G.1 0)), (1, .ref (G.1 111)), (2, .ref (G.1 112)), (3, .ref (G.1 113)), (4, .ref (G.1 114)), (5, .int x5), (6, .ref (G.1 115)), (7, .int v7), (8, .int v8), (9, .int v9), (10, .int v10), (11, .int v11), (13, .int v13), (14, .int v14), (15, .int v15)] → W p l e rm_L_isAhead s m args below meth c H locs n (12 * n) (MQ below (va_Qi (Q) (wPo D cs b B) (fun q => b ≤ q)) args s 1 (12 * 1) (fun q => b ≤ q)) (F0 m 194 ls []) := by
  obtain ⟨hX, hr, hlk, hK, hE⟩ := id C0
  have hx := hX.1
  have hb := hX.2.1
  have hown := hX.2.2.2.1
  have hts := hX.2.2.2.2
  intro n v7 v8 v9 v10 v11 v13 v14 v15 I H locs ls hq hH hl
  unfold v_L_isAhead_194 at hq
  obtain ⟨hn, hq⟩ := hq
  refine lv_iconst (v := 0) hx hb dL_isAhead_194 (by decide) ?_
  exact s_L_isAhead_195 hst hG hB C0 hK95 hK124 hK155 n v7 v8 v9 v10 v11 v13 v14 v15 (0 : Int32) _ _ _ _ hq hH (lv_sub hl [0, 1, 2, 3, 4, 5, 6, 7, 8, 9, 10, 11, 12, 13, 14] rfl)
set_option maxRecDepth 100000 in
set_option maxHeartbeats 4000000 in
theorem s_L_isAhead_155 {x5 : Int32} {Q : Int32 → wI → Prop} {K95 : Nat → Int32 → Int32 → Int32 → Int32 → wI → Prop} {K124 : Nat → Int32 → Int32 → Int32 → Int32 → Int32 → wI → Prop} (hst : l.stackTraces = false) (hG : G.2 = 116) (hB : ∀ I t, wPo D cs b G I t → wPo D cs b B I t) (C0 : wCx p m c s args meth cL_isAhead 16 RL (some .boolean) D cs ad b) (hK95 : ∀ (n : Nat) (v7 : Int32) (v8 : Int32) (v9 : Int32) (v10 : Int32) (I : wI) (H : Heap) (locs : List Loc) (ls : Array Slot), K95 n v7 v8 v9 v10 I → wH D cs b G I s H locs → lv_has ls 16 [(0, .ref (G.1 0)), (1, .ref (G.1 111)), (2, .ref (G.1 112)), (3, .ref (G.1 113)), (4, .ref (G.1 114)), (5, .int x5), (6, .ref (G.1 115)), (7, .int v7), (8, .int v8), (9, .int v9), (10, .int v10)] → W p l e rm_L_isAhead s m args below meth c H locs n (12 * n) (MQ below (va_Qi (Q) (wPo D cs b B) (fun q => b ≤ q)) args s 1 (12 * 1) (fun q => b ≤ q)) (F0 m 95 ls [])) (hK124 : ∀ (n : Nat) (v7 : Int32) (v8 : Int32) (v9 : Int32) (v10 : Int32) (v11 : Int32) (I : wI) (H : Heap) (locs : List Loc) (ls : Array Slot), K124 n v7 v8 v9 v10 v11 I → wH D cs b G I s H locs → lv_has ls 16 [(0, .ref (G.1 0)), (1, .ref (G.1 111)), (2, .ref (G.1 112)), (3, .ref (G.1 113)), (4, .ref (G.1 114)), (5, .int x5), (6, .ref (G.1 115)), (7, .int v7), (8, .int v8), (9, .int v9), (10, .int v10), (11, .int v11)] → W p l e rm_L_isAhead s m args below meth c H locs n (12 * n) (MQ below (va_Qi (Q) (wPo D cs b B) (fun q => b ≤ q)) args s 1 (12 * 1) (fun q => b ≤ q)) (F0 m 124 ls [])) : ∀ (f : Nat) (n : Nat) (v7 : Int32) (v8 : Int32) (v9 : Int32) (v10 : Int32) (v11 : Int32) (v12 : Int32) (v13 : Int32) (v14 : Int32) (I : wI) (H : Heap) (locs : List Loc) (ls : Array Slot), v_L_isAhead_155 x5 Q K95 K124 f n v7 v8 v9 v10 v11 v12 v13 v14 I → wH D cs b G I s H locs → lv_has ls 16 [(0, .ref (G.1 0)), (1, .ref (G.1 111)), (2, .ref (G.1 112)), (3, .ref (G.1 113)), (4, .ref (G.1 114)), (5, .int x5), (6, .ref (G.1 115)), (7, .int v7), (8, .int v8), (9, .int v9), (10, .int v10), (11, .int v11), (12, .int v12), (13, .int v13), (14, .int v14)] → W p l e rm_L_isAhead s m args below meth c H locs n (12 * n) (MQ below (va_Qi (Q) (wPo D cs b B) (fun q => b ≤ q)) args s 1 (12 * 1) (fun q => b ≤ q)) (F0 m 155 ls []) := by
  obtain ⟨hX, hr, hlk, hK, hE⟩ := id C0
  have hx := hX.1
  have hb := hX.2.1
  have hown := hX.2.2.2.1
  have hts := hX.2.2.2.2
  intro f
  induction f with
  | zero =>
    intro n v7 v8 v9 v10 v11 v12 v13 v14 I H locs ls hq
    exact hq.elim
  | succ f hK155 =>
    intro n v7 v8 v9 v10 v11 v12 v13 v14 I H locs ls hq hH hl
    have hq : g_L_isAhead_155 x5 Q K95 K124 (v_L_isAhead_155 x5 Q K95 K124 f) n v7 v8 v9 v10 v11 v12 v13 v14 I := hq
    unfold g_L_isAhead_155 at hq
    obtain ⟨hn, hq⟩ := hq
    refine lv_iload hx hb dL_isAhead_155 (lv_at hl 14 rfl) ?_
    refine lv_iload hx hb dL_isAhead_157 (lv_at hl 10 rfl) ?_
    refine lv_icmp_ge (tgt := 228) hx hb dL_isAhead_159 (by decide) (fun hc => ?_) (fun hc => ?_)
    · have hq := hq.1 hc
      refine lv_iload hx hb dL_isAhead_228 (lv_at hl 12 rfl) ?_
      refine lv_if_eq (tgt := 263) hx hb dL_isAhead_230 (by decide) (fun hc => ?_) (fun hc => ?_)
      · have hq := hq.1 hc
        exact s_L_isAhead_263 hst hG hB C0 hK95 hK124 n v7 v8 v9 v10 v11 _ _ _ _ hq hH (lv_sub hl [0, 1, 2, 3, 4, 5, 6, 7, 8, 9, 10, 11] rfl)
      · have hq := hq.2 hc
        refine lv_aload hx hb dL_isAhead_233 (lv_at hl 6 rfl) ?_
        refine lv_aload_n hx hb dL_isAhead_235 rfl (lv_at hl 3 rfl) ?_
        refine lv_aload hx hb dL_isAhead_236 (lv_at hl 4 rfl) ?_
        obtain ⟨hp, hq⟩ := hq
        refine w_cIp hH (w_rS (As := [.ref (G.1 115), .ref (G.1 113), .ref (G.1 114)]) (rest := []) hX hK hE hH (c_L_right (la115 (Nat.le_of_eq hG.symm))  _ hp) q3_103 q3_104 q1_0 q3_105 hd_L_right.2 ⟨Nat.le_of_ble_eq_true rfl, Nat.le_of_ble_eq_true rfl⟩ ⟨rfl, rfl⟩ rfl hl.1 rfl (Nat.le_of_ble_eq_true rfl) dL_isAhead_238 ⟨hn, Nat.mul_le_mul_left 12 hn⟩) (fun r1  H locs hpo hH => ?_)
        have hq := hq r1  hpo
        refine lv_bipush (v := 6) hx hb dL_isAhead_241 (by decide) ?_
        refine lv_icmp_ge (tgt := 249) hx hb dL_isAhead_243 (by decide) (fun hc => ?_) (fun hc => ?_)
        · have hq := hq.1 hc
          refine lv_iload hx hb dL_isAhead_249 (lv_at hl 10 rfl) ?_
          refine lv_istore (lv' := [(7, .int v10), (0, .ref (G.1 0)), (1, .ref (G.1 111)), (2, .ref (G.1 112)), (3, .ref (G.1 113)), (4, .ref (G.1 114)), (5, .int x5), (6, .ref (G.1 115)), (8, .int v8), (9, .int v9), (10, .int v10), (11, .int v11), (12, .int v12), (13, .int v13), (14, .int v14)]) hx hb dL_isAhead_251 hl (by decide) rfl (fun ls hl => ?_)
          refine lv_iload hx hb dL_isAhead_253 (lv_at hl 11 rfl) ?_
          refine lv_iload hx hb dL_isAhead_255 (lv_at hl 9 rfl) ?_
          refine lv_bipush (v := 10) hx hb dL_isAhead_257 (by decide) ?_
          refine lv_idiv hx hb dL_isAhead_259 (by decide) ?_
          obtain ⟨hc, hq⟩ := hq
          refine lv_idiv hx hb dL_isAhead_260 hc ?_
          refine lv_istore (lv' := [(8, .int (v11 / (v9 / (10 : Int32)))), (7, .int v10), (0, .ref (G.1 0)), (1, .ref (G.1 111)), (2, .ref (G.1 112)), (3, .ref (G.1 113)), (4, .ref (G.1 114)), (5, .int x5), (6, .ref (G.1 115)), (9, .int v9), (10, .int v10), (11, .int v11), (12, .int v12), (13, .int v13), (14, .int v14)]) hx hb dL_isAhead_261 hl (by decide) rfl (fun ls hl => ?_)
          exact s_L_isAhead_263 hst hG hB C0 hK95 hK124 n v10 (v11 / (v9 / (10 : Int32))) v9 v10 v11 _ _ _ _ hq hH (lv_sub hl [2, 3, 4, 5, 6, 7, 8, 1, 0, 9, 10, 11] rfl)
        · have hq := hq.2 hc
          refine lv_goto (tgt := 263) hx hb dL_isAhead_246 (by decide) ?_
          exact s_L_isAhead_263 hst hG hB C0 hK95 hK124 n v7 v8 v9 v10 v11 _ _ _ _ hq hH (lv_sub hl [0, 1, 2, 3, 4, 5, 6, 7, 8, 9, 10, 11] rfl)
    · have hq := hq.2 hc
      refine lv_iload hx hb dL_isAhead_162 (lv_at hl 11 rfl) ?_
      refine lv_iload hx hb dL_isAhead_164 (lv_at hl 13 rfl) ?_
      obtain ⟨hc, hq⟩ := hq
      refine lv_idiv hx hb dL_isAhead_166 hc ?_
      refine lv_bipush (v := 10) hx hb dL_isAhead_167 (by decide) ?_
      refine lv_irem hx hb dL_isAhead_169 (by decide) ?_
      refine lv_istore (lv' := [(15, .int ((v11 / v13) - (v11 / v13) / (10 : Int32) * (10 : Int32))), (0, .ref (G.1 0)), (1, .ref (G.1 111)), (2, .ref (G.1 112)), (3, .ref (G.1 113)), (4, .ref (G.1 114)), (5, .int x5), (6, .ref (G.1 115)), (7, .int v7), (8, .int v8), (9, .int v9), (10, .int v10), (11, .int v11), (12, .int v12), (13, .int v13), (14, .int v14)]) hx hb dL_isAhead_170 hl (by decide) rfl (fun ls hl => ?_)
      refine lv_iload hx hb dL_isAhead_172 (lv_at hl 13 rfl) ?_
      refine lv_if_eq (tgt := 194) hx hb dL_isAhead_174 (by decide) (fun hc => ?_) (fun hc => ?_)
      · have hq := hq.1 hc
        exact s_L_isAhead_194 hst hG hB C0 hK95 hK124 hK155 n v7 v8 v9 v10 v11 v13 v14 ((v11 / v13) - (v11 / v13) / (10 : Int32) * (10 : Int32)) _ _ _ _ hq hH (lv_sub hl [1, 2, 3, 4, 5, 6, 7, 8, 9, 10, 11, 12, 14, 15, 0] rfl)
      · have hq := hq.2 hc
        refine lv_aload_n hx hb dL_isAhead_177 rfl (lv_at hl 3 rfl) ?_
        refine lv_iload hx hb dL_isAhead_178 (lv_at hl 0 rfl) ?_
        refine lv_iconst (v := 5) hx hb dL_isAhead_180 (by decide) ?_
        refine lv_irem hx hb dL_isAhead_181 (by decide) ?_
        obtain ⟨hc, hq⟩ := hq
        refine w_iald5 hX hK hH (la112 hH.2.2.1) hc dL_isAhead_182 ?_
        refine lv_aload_n hx hb dL_isAhead_183 rfl (lv_at hl 4 rfl) ?_
        refine lv_iconst (v := 3) hx hb dL_isAhead_184 (by decide) ?_
        obtain ⟨hc, hq⟩ := hq
        refine w_iald5 hX hK hH (la113 hH.2.2.1) hc dL_isAhead_185 ?_
        refine lv_iand hx hb dL_isAhead_186 ?_
        refine lv_if_ne (tgt := 194) hx hb dL_isAhead_187 (by decide) (fun hc => ?_) (fun hc => ?_)
        · have hq := hq.1 hc
          exact s_L_isAhead_194 hst hG hB C0 hK95 hK124 hK155 n v7 v8 v9 v10 v11 v13 v14 ((v11 / v13) - (v11 / v13) / (10 : Int32) * (10 : Int32)) _ _ _ _ hq hH (lv_sub hl [1, 2, 3, 4, 5, 6, 7, 8, 9, 10, 11, 12, 14, 15, 0] rfl)
        · have hq := hq.2 hc
          refine lv_iconst (v := 1) hx hb dL_isAhead_190 (by decide) ?_
          refine lv_goto (tgt := 195) hx hb dL_isAhead_191 (by decide) ?_
          exact s_L_isAhead_195 hst hG hB C0 hK95 hK124 hK155 n v7 v8 v9 v10 v11 v13 v14 ((v11 / v13) - (v11 / v13) / (10 : Int32) * (10 : Int32)) (1 : Int32) _ _ _ _ hq hH (lv_sub hl [1, 2, 3, 4, 5, 6, 7, 8, 9, 10, 11, 12, 14, 15, 0] rfl)
set_option maxRecDepth 100000 in
set_option maxHeartbeats 4000000 in
theorem s_L_isAhead_124 {x5 : Int32} {Q : Int32 → wI → Prop} {K95 : Nat → Int32 → Int32 → Int32 → Int32 → wI → Prop} (hst : l.stackTraces = false) (hG : G.2 = 116) (hB : ∀ I t, wPo D cs b G I t → wPo D cs b B I t) (C0 : wCx p m c s args meth cL_isAhead 16 RL (some .boolean) D cs ad b) (hK95 : ∀ (n : Nat) (v7 : Int32) (v8 : Int32) (v9 : Int32) (v10 : Int32) (I : wI) (H : Heap) (locs : List Loc) (ls : Array Slot), K95 n v7 v8 v9 v10 I → wH D cs b G I s H locs → lv_has ls 16 [(0, .ref (G.1 0)), (1, .ref (G.1 111)), (2, .ref (G.1 112)), (3, .ref (G.1 113)), (4, .ref (G.1 114)), (5, .int x5), (6, .ref (G.1 115)), (7, .int v7), (8, .int v8), (9, .int v9), (10, .int v10)] → W p l e rm_L_isAhead s m args below meth c H locs n (12 * n) (MQ below (va_Qi (Q) (wPo D cs b B) (fun q => b ≤ q)) args s 1 (12 * 1) (fun q => b ≤ q)) (F0 m 95 ls [])) : ∀ (f : Nat) (n : Nat) (v7 : Int32) (v8 : Int32) (v9 : Int32) (v10 : Int32) (v11 : Int32) (I : wI) (H : Heap) (locs : List Loc) (ls : Array Slot), v_L_isAhead_124 x5 Q K95 f n v7 v8 v9 v10 v11 I → wH D cs b G I s H locs → lv_has ls 16 [(0, .ref (G.1 0)), (1, .ref (G.1 111)), (2, .ref (G.1 112)), (3, .ref (G.1 113)), (4, .ref (G.1 114)), (5, .int x5), (6, .ref (G.1 115)), (7, .int v7), (8, .int v8), (9, .int v9), (10, .int v10), (11, .int v11)] → W p l e rm_L_isAhead s m args below meth c H locs n (12 * n) (MQ below (va_Qi (Q) (wPo D cs b B) (fun q => b ≤ q)) args s 1 (12 * 1) (fun q => b ≤ q)) (F0 m 124 ls []) := by
  obtain ⟨hX, hr, hlk, hK, hE⟩ := id C0
  have hx := hX.1
  have hb := hX.2.1
  have hown := hX.2.2.2.1
  have hts := hX.2.2.2.2
  intro f
  induction f with
  | zero =>
    intro n v7 v8 v9 v10 v11 I H locs ls hq
    exact hq.elim
  | succ f hK124 =>
    intro n v7 v8 v9 v10 v11 I H locs ls hq hH hl
    have hq : g_L_isAhead_124 x5 Q K95 (v_L_isAhead_124 x5 Q K95 f) n v7 v8 v9 v10 v11 I := hq
    unfold g_L_isAhead_124 at hq
    obtain ⟨hn, hq⟩ := hq
    refine lv_iload hx hb dL_isAhead_124 (lv_at hl 11 rfl) ?_
    refine lv_iload hx hb dL_isAhead_126 (lv_at hl 9 rfl) ?_
    refine lv_icmp_ge (tgt := 269) hx hb dL_isAhead_128 (by decide) (fun hc => ?_) (fun hc => ?_)
    · have hq := hq.1 hc
      exact s_L_isAhead_269 hst hG hB C0 hK95 n v7 v8 v9 v10 _ _ _ _ hq hH (lv_sub hl [0, 1, 2, 3, 4, 5, 6, 7, 8, 9, 10] rfl)
    · have hq := hq.2 hc
      refine lv_iload hx hb dL_isAhead_131 (lv_at hl 7 rfl) ?_
      refine lv_if_ge (tgt := 269) hx hb dL_isAhead_133 (by decide) (fun hc => ?_) (fun hc => ?_)
      · have hq := hq.1 hc
        exact s_L_isAhead_269 hst hG hB C0 hK95 n v7 v8 v9 v10 _ _ _ _ hq hH (lv_sub hl [0, 1, 2, 3, 4, 5, 6, 7, 8, 9, 10] rfl)
      · have hq := hq.2 hc
        refine lv_aload_n hx hb dL_isAhead_136 rfl (lv_at hl 1 rfl) ?_
        refine lv_aload hx hb dL_isAhead_137 (lv_at hl 6 rfl) ?_
        obtain ⟨hp, hq⟩ := hq
        refine w_cV hH (w_rS (As := [.ref (G.1 111), .ref (G.1 115)]) (rest := []) hX hK hE hH (c_L_copy (la111 hH.2.2.1) (la115 (Nat.le_of_eq hG.symm))  _ hp) q3_121 q3_122 q1_0 q3_123 hd_L_copy.2 ⟨Nat.le_of_ble_eq_true rfl, Nat.le_of_ble_eq_true rfl⟩ ⟨rfl, rfl⟩ rfl hl.1 rfl (Nat.le_of_ble_eq_true rfl) dL_isAhead_139 ⟨hn, Nat.mul_le_mul_left 12 hn⟩) (fun  I1 H locs hpo hH => ?_)
        have hq := hq  I1 hpo
        refine lv_iconst (v := 1) hx hb dL_isAhead_142 (by decide) ?_
        refine lv_istore (lv' := [(12, .int (1 : Int32)), (0, .ref (G.1 0)), (1, .ref (G.1 111)), (2, .ref (G.1 112)), (3, .ref (G.1 113)), (4, .ref (G.1 114)), (5, .int x5), (6, .ref (G.1 115)), (7, .int v7), (8, .int v8), (9, .int v9), (10, .int v10), (11, .int v11)]) hx hb dL_isAhead_143 hl (by decide) rfl (fun ls hl => ?_)
        refine lv_iload hx hb dL_isAhead_145 (lv_at hl 10 rfl) ?_
        refine lv_bipush (v := 10) hx hb dL_isAhead_147 (by decide) ?_
        refine lv_idiv hx hb dL_isAhead_149 (by decide) ?_
        refine lv_istore (lv' := [(13, .int (v9 / (10 : Int32))), (12, .int (1 : Int32)), (0, .ref (G.1 0)), (1, .ref (G.1 111)), (2, .ref (G.1 112)), (3, .ref (G.1 113)), (4, .ref (G.1 114)), (5, .int x5), (6, .ref (G.1 115)), (7, .int v7), (8, .int v8), (9, .int v9), (10, .int v10), (11, .int v11)]) hx hb dL_isAhead_150 hl (by decide) rfl (fun ls hl => ?_)
        refine lv_iconst (v := 0) hx hb dL_isAhead_152 (by decide) ?_
        refine lv_istore (lv' := [(14, .int (0 : Int32)), (13, .int (v9 / (10 : Int32))), (12, .int (1 : Int32)), (0, .ref (G.1 0)), (1, .ref (G.1 111)), (2, .ref (G.1 112)), (3, .ref (G.1 113)), (4, .ref (G.1 114)), (5, .int x5), (6, .ref (G.1 115)), (7, .int v7), (8, .int v8), (9, .int v9), (10, .int v10), (11, .int v11)]) hx hb dL_isAhead_153 hl (by decide) rfl (fun ls hl => ?_)
        obtain ⟨f, hq⟩ := hq
        exact s_L_isAhead_155 hst hG hB C0 hK95 hK124 f n v7 v8 v9 v10 v11 (1 : Int32) (v9 / (10 : Int32)) (0 : Int32) _ _ _ _ hq hH (lv_sub hl [3, 4, 5, 6, 7, 8, 9, 10, 11, 12, 13, 14, 2, 1, 0] rfl)
set_option maxRecDepth 100000 in
set_option maxHeartbeats 4000000 in
theorem s_L_isAhead_95 {x5 : Int32} {Q : Int32 → wI → Prop} (hst : l.stackTraces = false) (hG : G.2 = 116) (hB : ∀ I t, wPo D cs b G I t → wPo D cs b B I t) (C0 : wCx p m c s args meth cL_isAhead 16 RL (some .boolean) D cs ad b) : ∀ (f : Nat) (n : Nat) (v7 : Int32) (v8 : Int32) (v9 : Int32) (v10 : Int32) (I : wI) (H : Heap) (locs : List Loc) (ls : Array Slot), v_L_isAhead_95 x5 Q f n v7 v8 v9 v10 I → wH D cs b G I s H locs → lv_has ls 16 [(0, .ref (G.1 0)), (1, .ref (G.1 111)), (2, .ref (G.1 112)), (3, .ref (G.1 113)), (4, .ref (G.1 114)), (5, .int x5), (6, .ref (G.1 115)), (7, .int v7), (8, .int v8), (9, .int v9), (10, .int v10)] → W p l e rm_L_isAhead s m args below meth c H locs n (12 * n) (MQ below (va_Qi (Q) (wPo D cs b B) (fun q => b ≤ q)) args s 1 (12 * 1) (fun q => b ≤ q)) (F0 m 95 ls []) := by
  obtain ⟨hX, hr, hlk, hK, hE⟩ := id C0
  have hx := hX.1
  have hb := hX.2.1
  have hown := hX.2.2.2.1
  have hts := hX.2.2.2.2
  intro f
  induction f with
  | zero =>
    intro n v7 v8 v9 v10 I H locs ls hq
    exact hq.elim
  | succ f hK95 =>
    intro n v7 v8 v9 v10 I H locs ls hq hH hl
    have hq : g_L_isAhead_95 x5 Q (v_L_isAhead_95 x5 Q f) n v7 v8 v9 v10 I := hq
    unfold g_L_isAhead_95 at hq
    obtain ⟨hn, hq⟩ := hq
    refine lv_iload hx hb dL_isAhead_95 (lv_at hl 10 rfl) ?_
    refine lv_iload hx hb dL_isAhead_97 (lv_at hl 5 rfl) ?_
    refine lv_icmp_gt (tgt := 275) hx hb dL_isAhead_99 (by decide) (fun hc => ?_) (fun hc => ?_)
    · have hq := hq.1 hc
      exact s_L_isAhead_275 hst hG hB C0  n v7 v8 _ _ _ _ hq hH (lv_sub hl [0, 3, 5, 7, 8] rfl)
    · have hq := hq.2 hc
      refine lv_iload hx hb dL_isAhead_102 (lv_at hl 7 rfl) ?_
      refine lv_if_ge (tgt := 275) hx hb dL_isAhead_104 (by decide) (fun hc => ?_) (fun hc => ?_)
      · have hq := hq.1 hc
        exact s_L_isAhead_275 hst hG hB C0  n v7 v8 _ _ _ _ hq hH (lv_sub hl [0, 3, 5, 7, 8] rfl)
      · have hq := hq.2 hc
        refine lv_aload_n hx hb dL_isAhead_107 rfl (lv_at hl 3 rfl) ?_
        refine lv_iconst (v := 2) hx hb dL_isAhead_108 (by decide) ?_
        obtain ⟨hc, hq⟩ := hq
        refine w_iald5 hX hK hH (la113 hH.2.2.1) hc dL_isAhead_109 ?_
        refine lv_iconst (v := 1) hx hb dL_isAhead_110 (by decide) ?_
        refine lv_icmp_ne (tgt := 275) hx hb dL_isAhead_111 (by decide) (fun hc => ?_) (fun hc => ?_)
        · have hq := hq.1 hc
          exact s_L_isAhead_275 hst hG hB C0  n v7 v8 _ _ _ _ hq hH (lv_sub hl [0, 3, 5, 7, 8] rfl)
        · have hq := hq.2 hc
          refine lv_iload hx hb dL_isAhead_114 (lv_at hl 9 rfl) ?_
          refine lv_bipush (v := 10) hx hb dL_isAhead_116 (by decide) ?_
          refine lv_imul hx hb dL_isAhead_118 ?_
          refine lv_istore (lv' := [(9, .int (v9 * (10 : Int32))), (0, .ref (G.1 0)), (1, .ref (G.1 111)), (2, .ref (G.1 112)), (3, .ref (G.1 113)), (4, .ref (G.1 114)), (5, .int x5), (6, .ref (G.1 115)), (7, .int v7), (8, .int v8), (10, .int v10)]) hx hb dL_isAhead_119 hl (by decide) rfl (fun ls hl => ?_)
          refine lv_iconst (v := 0) hx hb dL_isAhead_121 (by decide) ?_
          refine lv_istore (lv' := [(11, .int (0 : Int32)), (9, .int (v9 * (10 : Int32))), (0, .ref (G.1 0)), (1, .ref (G.1 111)), (2, .ref (G.1 112)), (3, .ref (G.1 113)), (4, .ref (G.1 114)), (5, .int x5), (6, .ref (G.1 115)), (7, .int v7), (8, .int v8), (10, .int v10)]) hx hb dL_isAhead_122 hl (by decide) rfl (fun ls hl => ?_)
          obtain ⟨f, hq⟩ := hq
          exact s_L_isAhead_124 hst hG hB C0 hK95 f n v7 v8 (v9 * (10 : Int32)) v10 (0 : Int32) _ _ _ _ hq hH (lv_sub hl [2, 3, 4, 5, 6, 7, 8, 9, 10, 1, 11, 0] rfl)
set_option maxRecDepth 100000 in
set_option maxHeartbeats 4000000 in
theorem s_L_isAhead_89 {x5 : Int32} {Q : Int32 → wI → Prop} (hst : l.stackTraces = false) (hG : G.2 = 116) (hB : ∀ I t, wPo D cs b G I t → wPo D cs b B I t) (C0 : wCx p m c s args meth cL_isAhead 16 RL (some .boolean) D cs ad b) : ∀ (n : Nat) (v7 : Int32) (v8 : Int32) (I : wI) (H : Heap) (locs : List Loc) (ls : Array Slot), v_L_isAhead_89 x5 Q n v7 v8 I → wH D cs b G I s H locs → lv_has ls 16 [(0, .ref (G.1 0)), (1, .ref (G.1 111)), (2, .ref (G.1 112)), (3, .ref (G.1 113)), (4, .ref (G.1 114)), (5, .int x5), (6, .ref (G.1 115)), (7, .int v7), (8, .int v8)] → W p l e rm_L_isAhead s m args below meth c H locs n (12 * n) (MQ below (va_Qi (Q) (wPo D cs b B) (fun q => b ≤ q)) args s 1 (12 * 1) (fun q => b ≤ q)) (F0 m 89 ls []) := by
  obtain ⟨hX, hr, hlk, hK, hE⟩ := id C0
  have hx := hX.1
  have hb := hX.2.1
  have hown := hX.2.2.2.1
  have hts := hX.2.2.2.2
  intro n v7 v8 I H locs ls hq hH hl
  unfold v_L_isAhead_89 at hq
  obtain ⟨hn, hq⟩ := hq
  refine lv_iconst (v := 1) hx hb dL_isAhead_89 (by decide) ?_
  refine lv_istore (lv' := [(9, .int (1 : Int32)), (0, .ref (G.1 0)), (1, .ref (G.1 111)), (2, .ref (G.1 112)), (3, .ref (G.1 113)), (4, .ref (G.1 114)), (5, .int x5), (6, .ref (G.1 115)), (7, .int v7), (8, .int v8)]) hx hb dL_isAhead_90 hl (by decide) rfl (fun ls hl => ?_)
  refine lv_iconst (v := 1) hx hb dL_isAhead_92 (by decide) ?_
  refine lv_istore (lv' := [(10, .int (1 : Int32)), (9, .int (1 : Int32)), (0, .ref (G.1 0)), (1, .ref (G.1 111)), (2, .ref (G.1 112)), (3, .ref (G.1 113)), (4, .ref (G.1 114)), (5, .int x5), (6, .ref (G.1 115)), (7, .int v7), (8, .int v8)]) hx hb dL_isAhead_93 hl (by decide) rfl (fun ls hl => ?_)
  obtain ⟨f, hq⟩ := hq
  exact s_L_isAhead_95 hst hG hB C0  f n v7 v8 (1 : Int32) (1 : Int32) _ _ _ _ hq hH (lv_sub hl [2, 3, 4, 5, 6, 7, 8, 9, 10, 1, 0] rfl)
set_option maxRecDepth 100000 in
set_option maxHeartbeats 4000000 in
theorem s_L_isAhead_9 {x5 : Int32} {Q : Int32 → wI → Prop} (hst : l.stackTraces = false) (hG : G.2 = 116) (hB : ∀ I t, wPo D cs b G I t → wPo D cs b B I t) (C0 : wCx p m c s args meth cL_isAhead 16 RL (some .boolean) D cs ad b) : ∀ (f : Nat) (n : Nat) (v7 : Int32) (I : wI) (H : Heap) (locs : List Loc) (ls : Array Slot), v_L_isAhead_9 x5 Q f n v7 I → wH D cs b G I s H locs → lv_has ls 16 [(0, .ref (G.1 0)), (1, .ref (G.1 111)), (2, .ref (G.1 112)), (3, .ref (G.1 113)), (4, .ref (G.1 114)), (5, .int x5), (6, .ref (G.1 115)), (7, .int v7)] → W p l e rm_L_isAhead s m args below meth c H locs n (12 * n) (MQ below (va_Qi (Q) (wPo D cs b B) (fun q => b ≤ q)) args s 1 (12 * 1) (fun q => b ≤ q)) (F0 m 9 ls []) := by
  obtain ⟨hX, hr, hlk, hK, hE⟩ := id C0
  have hx := hX.1
  have hb := hX.2.1
  have hown := hX.2.2.2.1
  have hts := hX.2.2.2.2
  intro f
  induction f with
  | zero =>
    intro n v7 I H locs ls hq
    exact hq.elim
  | succ f hK9 =>
    intro n v7 I H locs ls hq hH hl
    have hq : g_L_isAhead_9 x5 Q (v_L_isAhead_9 x5 Q f) n v7 I := hq
    unfold g_L_isAhead_9 at hq
    obtain ⟨hn, hq⟩ := hq
    refine lv_iload hx hb dL_isAhead_9 (lv_at hl 7 rfl) ?_
    refine lv_bipush (v := 10) hx hb dL_isAhead_11 (by decide) ?_
    refine lv_icmp_ge (tgt := 61) hx hb dL_isAhead_13 (by decide) (fun hc => ?_) (fun hc => ?_)
    · have hq := hq.1 hc
      refine lv_iconst (v := -1) hx hb dL_isAhead_61 (by decide) ?_
      refine lv_istore (lv' := [(7, .int (-1 : Int32)), (0, .ref (G.1 0)), (1, .ref (G.1 111)), (2, .ref (G.1 112)), (3, .ref (G.1 113)), (4, .ref (G.1 114)), (5, .int x5), (6, .ref (G.1 115))]) hx hb dL_isAhead_62 hl (by decide) rfl (fun ls hl => ?_)
      refine lv_iconst (v := -1) hx hb dL_isAhead_64 (by decide) ?_
      refine lv_istore (lv' := [(8, .int (-1 : Int32)), (7, .int (-1 : Int32)), (0, .ref (G.1 0)), (1, .ref (G.1 111)), (2, .ref (G.1 112)), (3, .ref (G.1 113)), (4, .ref (G.1 114)), (5, .int x5), (6, .ref (G.1 115))]) hx hb dL_isAhead_65 hl (by decide) rfl (fun ls hl => ?_)
      refine lv_aload_n hx hb dL_isAhead_67 rfl (lv_at hl 5 rfl) ?_
      refine lv_iconst (v := 2) hx hb dL_isAhead_68 (by decide) ?_
      obtain ⟨hc, hq⟩ := hq
      refine w_iald5 hX hK hH (la113 hH.2.2.1) hc dL_isAhead_69 ?_
      refine lv_iconst (v := 1) hx hb dL_isAhead_70 (by decide) ?_
      refine lv_icmp_ne (tgt := 89) hx hb dL_isAhead_71 (by decide) (fun hc => ?_) (fun hc => ?_)
      · have hq := hq.1 hc
        exact s_L_isAhead_89 hst hG hB C0  n (-1 : Int32) (-1 : Int32) _ _ _ _ hq hH (lv_sub hl [2, 3, 4, 5, 6, 7, 8, 1, 0] rfl)
      · have hq := hq.2 hc
        refine lv_aload_n hx hb dL_isAhead_74 rfl (lv_at hl 3 rfl) ?_
        refine lv_aload_n hx hb dL_isAhead_75 rfl (lv_at hl 5 rfl) ?_
        refine lv_aload hx hb dL_isAhead_76 (lv_at hl 6 rfl) ?_
        obtain ⟨hp, hq⟩ := hq
        refine w_cIp hH (w_rS (As := [.ref (G.1 111), .ref (G.1 113), .ref (G.1 114)]) (rest := []) hX hK hE hH (c_L_right (la111 hH.2.2.1)  _ hp) q3_103 q3_104 q1_0 q3_105 hd_L_right.2 ⟨Nat.le_of_ble_eq_true rfl, Nat.le_of_ble_eq_true rfl⟩ ⟨rfl, rfl⟩ rfl hl.1 rfl (Nat.le_of_ble_eq_true rfl) dL_isAhead_78 ⟨hn, Nat.mul_le_mul_left 12 hn⟩) (fun r1  H locs hpo hH => ?_)
        have hq := hq r1  hpo
        refine lv_bipush (v := 6) hx hb dL_isAhead_81 (by decide) ?_
        refine lv_icmp_ne (tgt := 89) hx hb dL_isAhead_83 (by decide) (fun hc => ?_) (fun hc => ?_)
        · have hq := hq.1 hc
          exact s_L_isAhead_89 hst hG hB C0  n (-1 : Int32) (-1 : Int32) _ _ _ _ hq hH (lv_sub hl [2, 3, 4, 5, 6, 7, 8, 1, 0] rfl)
        · have hq := hq.2 hc
          refine lv_iconst (v := 0) hx hb dL_isAhead_86 (by decide) ?_
          refine lv_istore (lv' := [(7, .int (0 : Int32)), (8, .int (-1 : Int32)), (0, .ref (G.1 0)), (1, .ref (G.1 111)), (2, .ref (G.1 112)), (3, .ref (G.1 113)), (4, .ref (G.1 114)), (5, .int x5), (6, .ref (G.1 115))]) hx hb dL_isAhead_87 hl (by decide) rfl (fun ls hl => ?_)
          exact s_L_isAhead_89 hst hG hB C0  n (0 : Int32) (-1 : Int32) _ _ _ _ hq hH (lv_sub hl [2, 3, 4, 5, 6, 7, 8, 0, 1] rfl)
    · have hq := hq.2 hc
      refine lv_aload_n hx hb dL_isAhead_16 rfl (lv_at hl 1 rfl) ?_
      refine lv_aload hx hb dL_isAhead_17 (lv_at hl 6 rfl) ?_
      obtain ⟨hp, hq⟩ := hq
      refine w_cV hH (w_rS (As := [.ref (G.1 111), .ref (G.1 115)]) (rest := []) hX hK hE hH (c_L_copy (la111 hH.2.2.1) (la115 (Nat.le_of_eq hG.symm))  _ hp) q3_121 q3_122 q1_0 q3_123 hd_L_copy.2 ⟨Nat.le_of_ble_eq_true rfl, Nat.le_of_ble_eq_true rfl⟩ ⟨rfl, rfl⟩ rfl hl.1 rfl (Nat.le_of_ble_eq_true rfl) dL_isAhead_19 ⟨hn, Nat.mul_le_mul_left 12 hn⟩) (fun  I2 H locs hpo hH => ?_)
      have hq := hq  I2 hpo
      refine lv_aload hx hb dL_isAhead_22 (lv_at hl 6 rfl) ?_
      refine lv_aload_n hx hb dL_isAhead_24 rfl (lv_at hl 2 rfl) ?_
      refine lv_iload hx hb dL_isAhead_25 (lv_at hl 7 rfl) ?_
      obtain ⟨hp, hq⟩ := hq
      refine w_cV hH (w_rS (As := [.ref (G.1 115), .ref (G.1 112), .int v7]) (rest := []) hX hK hE hH (c_L_doTurn (la115 (Nat.le_of_eq hG.symm)) _ _ hp) q3_87 q3_88 q1_0 q3_89 hd_L_doTurn.2 ⟨Nat.le_of_ble_eq_true rfl, Nat.le_of_ble_eq_true rfl⟩ ⟨rfl, rfl⟩ rfl hl.1 rfl (Nat.le_of_ble_eq_true rfl) dL_isAhead_27 ⟨hn, Nat.mul_le_mul_left 12 hn⟩) (fun  I3 H locs hpo hH => ?_)
      have hq := hq  I3 hpo
      refine lv_aload_n hx hb dL_isAhead_30 rfl (lv_at hl 0 rfl) ?_
      refine lv_iload hx hb dL_isAhead_31 (lv_at hl 7 rfl) ?_
      refine lv_iconst (v := 5) hx hb dL_isAhead_33 (by decide) ?_
      refine lv_irem hx hb dL_isAhead_34 (by decide) ?_
      refine lv_iload hx hb dL_isAhead_35 (lv_at hl 7 rfl) ?_
      refine lv_iconst (v := 5) hx hb dL_isAhead_37 (by decide) ?_
      refine lv_idiv hx hb dL_isAhead_38 (by decide) ?_
      obtain ⟨hp, hq⟩ := hq
      refine w_cI hH (w_rV (As := [.int (v7 - v7 / (5 : Int32) * (5 : Int32)), .int (v7 / (5 : Int32))]) (rest := []) hX hK hE hH (c_X5_ifTurned  _ _ _ hp) ck5 sh0 q3_70 q3_71 q3_72 q1_1 q3_73 hd_X5_ifTurned ⟨Nat.le_of_ble_eq_true rfl, Nat.le_of_ble_eq_true rfl⟩ ⟨rfl, rfl⟩ rfl hl.1 rfl (Nat.le_of_ble_eq_true rfl) dL_isAhead_39 ⟨hn, Nat.mul_le_mul_left 12 hn⟩) (fun r4 I5 H locs hpo hH => ?_)
      have hq := hq r4 I5 hpo
      refine lv_aload hx hb dL_isAhead_42 (lv_at hl 6 rfl) ?_
      refine lv_aload_n hx hb dL_isAhead_44 rfl (lv_at hl 3 rfl) ?_
      refine lv_aload hx hb dL_isAhead_45 (lv_at hl 4 rfl) ?_
      obtain ⟨hp, hq⟩ := hq
      refine w_cIp hH (w_rS (As := [.ref (G.1 115), .ref (G.1 113), .ref (G.1 114)]) (rest := [.int r4]) hX hK hE hH (c_L_right (la115 (Nat.le_of_eq hG.symm))  _ hp) q3_103 q3_104 q1_0 q3_105 hd_L_right.2 ⟨Nat.le_of_ble_eq_true rfl, Nat.le_of_ble_eq_true rfl⟩ ⟨rfl, rfl⟩ rfl hl.1 rfl (Nat.le_of_ble_eq_true rfl) dL_isAhead_47 ⟨hn, Nat.mul_le_mul_left 12 hn⟩) (fun r6  H locs hpo hH => ?_)
      have hq := hq r6  hpo
      refine lv_icmp_eq (tgt := 55) hx hb dL_isAhead_50 (by decide) (fun hc => ?_) (fun hc => ?_)
      · have hq := hq.1 hc
        refine lv_iinc (v := (v7 + (1 : Int32))) (lv' := [(7, .int (v7 + (1 : Int32))), (0, .ref (G.1 0)), (1, .ref (G.1 111)), (2, .ref (G.1 112)), (3, .ref (G.1 113)), (4, .ref (G.1 114)), (5, .int x5), (6, .ref (G.1 115))]) hx hb dL_isAhead_55 hl (k := 7) rfl rfl (by decide) rfl (fun ls hl => ?_)
        refine lv_goto (tgt := 9) hx hb dL_isAhead_58 (by decide) ?_
        exact hK9 n (v7 + (1 : Int32)) _ _ _ _ hq hH (lv_sub hl [1, 2, 3, 4, 5, 6, 7, 0] rfl)
      · have hq := hq.2 hc
        refine lv_iconst (v := 0) hx hb dL_isAhead_53 (by decide) ?_
        refine W.widen (k := 1) (n := 12 * 1) hn (Nat.mul_le_mul_left 12 hn) ?_
        exact w_eZB hB (by decide) hX hr hlk hH hq dL_isAhead_54
set_option maxRecDepth 100000 in
set_option maxHeartbeats 4000000 in
theorem c_L_isAhead {l : Launch} {D : va_G} {cs : wC4} {ad : Nat → Nat} {b : Nat} {B : wG} (hst : l.stackTraces = false) (hG0 : B.2 = 115) (x5 : Int32) (I : wI) (hp : pre_L_isAhead x5 I) : Met l yL_isAhead (ws_ yL_isAhead cL_isAhead 16 (some .boolean)) rm_L_isAhead (va_Pc [.ref (B.1 0), .ref (B.1 111), .ref (B.1 112), .ref (B.1 113), .ref (B.1 114), .int x5] (wPr D cs ad b B I)) (va_Qi (fun r I' => post_L_isAhead x5 I r I') (wPo D cs b B) (fun q => b ≤ q)) 1 (12 * 1) (fun q => b ≤ q) := by
  have hq := vc_L_isAhead x5 I hp
  refine w_met (by decide) (Nat.le_of_ble_eq_true rfl) ?_
  intro p e s m below meth c hX hr hlk hK hE hH ls hl
  have C0 : wCx p m c s _ meth cL_isAhead 16 RL (some .boolean) D cs ad b := ⟨hX, hr, hlk, hK, hE⟩
  have hX : CallFix p m c cL_isAhead 16 s _ lw_all RL := hX
  have hx := hX.1
  have hb := hX.2.1
  have hown := hX.2.2.2.1
  have hts := hX.2.2.2.2
  have hl : lv_has ls 16 [(0, .ref (B.1 0)), (1, .ref (B.1 111)), (2, .ref (B.1 112)), (3, .ref (B.1 113)), (4, .ref (B.1 114)), (5, .int x5)] := hl
  obtain ⟨G, hG, hA, hsz⟩ := n_more B s.heap.size 115
  have hB : ∀ I t, wPo D cs b G I t → wPo D cs b B I t := n_back (by decide) hG0 hG hA
  have hH : wH D cs b (G.1, 115) I s s.heap [] := n_fore (by decide) hG0 hA hH
  rw [hA 0 (by decide), hA 111 (by decide), hA 112 (by decide), hA 113 (by decide), hA 114 (by decide)] at hl
  have hn : 0 ≤ 1 := Nat.zero_le _
  refine w_n0 ?_
  have hl : lv_has ls 16 [(0, .ref (G.1 0)), (1, .ref (G.1 111)), (2, .ref (G.1 112)), (3, .ref (G.1 113)), (4, .ref (G.1 114)), (5, .int x5)] := hl
  unfold v_L_isAhead at hq
  refine lv_bipush (v := 12) hx hb dL_isAhead_0 (by decide) ?_
  obtain ⟨hn, hq⟩ := hq
  refine n_newa (N := 115) hX hK hH hG hsz rfl rfl q1_42 ⟨hn, Nat.mul_le_mul_left 12 hn⟩ dL_isAhead_2 (fun I1 H hI hH => ?_)
  have hq := hq I1 hI
  refine lv_astore (lv' := [(6, .ref (G.1 115)), (0, .ref (G.1 0)), (1, .ref (G.1 111)), (2, .ref (G.1 112)), (3, .ref (G.1 113)), (4, .ref (G.1 114)), (5, .int x5)]) hx hb dL_isAhead_4 hl (by decide) rfl (fun ls hl => ?_)
  refine lv_iconst (v := 0) hx hb dL_isAhead_6 (by decide) ?_
  refine lv_istore (lv' := [(7, .int (0 : Int32)), (6, .ref (G.1 115)), (0, .ref (G.1 0)), (1, .ref (G.1 111)), (2, .ref (G.1 112)), (3, .ref (G.1 113)), (4, .ref (G.1 114)), (5, .int x5)]) hx hb dL_isAhead_7 hl (by decide) rfl (fun ls hl => ?_)
  obtain ⟨f, hq⟩ := hq
  exact s_L_isAhead_9 hst hG hB C0  f 1 (0 : Int32) _ _ _ _ hq hH (lv_sub hl [2, 3, 4, 5, 6, 7, 1, 0] rfl)
end
