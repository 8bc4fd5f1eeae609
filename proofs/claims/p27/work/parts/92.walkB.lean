section
variable {p : Program} {l : Launch} {e : Env} {s : State} {m : MethodId} {below : List Frame} {meth : Method} {c : Code} {D : va_G} {cs : wC4} {ad : Nat → Nat} {b a0 L : Nat} {xs : Nat → Int32} {G : wG}
set_option maxRecDepth 100000 in
set_option maxHeartbeats 4000000 in
theorem s_L_law_414 {Q : Unit} (hst : l.stackTraces = false) (hG : G.2 = 115) (hS0 : va_X a0 L xs s s.heap) (ha0 : a0 < b) (hL : L ≤ 260) (hbb : b = s.heap.size) (C0 : wCx p m c s #[Value.ref a0] meth cL_law 9 RL ret D cs ad b) : ∀ (n : Nat) (t0 : Int32) (I : wI) (H : Heap) (locs : List Loc) (ls : Array Slot), v_L_law_414 Q n t0 I → wH D cs b G I s H locs → lv_has ls 9 [] → W p l e room_1 s m #[Value.ref a0] below meth c H locs n (12 * n) (lw_Z below #[Value.ref a0] s) (F0 m 414 ls [.int t0]) := by
  obtain ⟨hX, hr, hlk, hK, hE⟩ := id C0
  have hx := hX.1
  have hb := hX.2.1
  have hown := hX.2.2.2.1
  have hts := hX.2.2.2.2
  intro n t0 I H locs ls hq hH hl
  unfold v_L_law_414 at hq
  obtain ⟨hn, hq⟩ := hq
  rw [hq]
  refine va_forget (fun q hq => by rw [← hbb]; exact hH.2.1.2.2 q hq) ?_
  refine W.widen (k := 600130) (n := 7301080) (by omega) (by omega) ?_
  exact lw_ret (d0 := s.drawn) (Drawn.sameBut.refl s.drawn lw_cs) hx hb hr hlk dL_law_414
set_option maxRecDepth 100000 in
set_option maxHeartbeats 4000000 in
theorem s_L_law_413 {Q : Unit} (hst : l.stackTraces = false) (hG : G.2 = 115) (hS0 : va_X a0 L xs s s.heap) (ha0 : a0 < b) (hL : L ≤ 260) (hbb : b = s.heap.size) (C0 : wCx p m c s #[Value.ref a0] meth cL_law 9 RL ret D cs ad b) : ∀ (n : Nat) (I : wI) (H : Heap) (locs : List Loc) (ls : Array Slot), v_L_law_413 Q n I → wH D cs b G I s H locs → lv_has ls 9 [] → W p l e room_1 s m #[Value.ref a0] below meth c H locs n (12 * n) (lw_Z below #[Value.ref a0] s) (F0 m 413 ls []) := by
  obtain ⟨hX, hr, hlk, hK, hE⟩ := id C0
  have hx := hX.1
  have hb := hX.2.1
  have hown := hX.2.2.2.1
  have hts := hX.2.2.2.2
  intro n I H locs ls hq hH hl
  unfold v_L_law_413 at hq
  obtain ⟨hn, hq⟩ := hq
  refine lv_iconst (v := 0) hx hb dL_law_413 (by decide) ?_
  exact s_L_law_414 hst hG hS0 ha0 hL hbb C0  n (0 : Int32) _ _ _ _ hq hH (lv_sub hl [] rfl)
set_option maxRecDepth 100000 in
set_option maxHeartbeats 4000000 in
theorem s_L_law_289 {Q : Unit} {K156 : Nat → Int32 → wI → Prop} (hst : l.stackTraces = false) (hG : G.2 = 115) (hS0 : va_X a0 L xs s s.heap) (ha0 : a0 < b) (hL : L ≤ 260) (hbb : b = s.heap.size) (C0 : wCx p m c s #[Value.ref a0] meth cL_law 9 RL ret D cs ad b) (hK156 : ∀ (n : Nat) (v6 : Int32) (I : wI) (H : Heap) (locs : List Loc) (ls : Array Slot), K156 n v6 I → wH D cs b G I s H locs → lv_has ls 9 [(0, .ref a0), (1, .ref (G.1 0)), (2, .ref (G.1 111)), (3, .ref (G.1 112)), (4, .ref (G.1 113)), (5, .ref (G.1 114)), (6, .int v6)] → W p l e room_1 s m #[Value.ref a0] below meth c H locs n (12 * n) (lw_Z below #[Value.ref a0] s) (F0 m 156 ls [])) : ∀ (n : Nat) (v6 : Int32) (I : wI) (H : Heap) (locs : List Loc) (ls : Array Slot), v_L_law_289 Q K156 n v6 I → wH D cs b G I s H locs → lv_has ls 9 [(0, .ref a0), (1, .ref (G.1 0)), (2, .ref (G.1 111)), (3, .ref (G.1 112)), (4, .ref (G.1 113)), (5, .ref (G.1 114)), (6, .int v6)] → W p l e room_1 s m #[Value.ref a0] below meth c H locs n (12 * n) (lw_Z below #[Value.ref a0] s) (F0 m 289 ls []) := by
  obtain ⟨hX, hr, hlk, hK, hE⟩ := id C0
  have hx := hX.1
  have hb := hX.2.1
  have hown := hX.2.2.2.1
  have hts := hX.2.2.2.2
  intro n v6 I H locs ls hq hH hl
  unfold v_L_law_289 at hq
  obtain ⟨hn, hq⟩ := hq
  refine lv_iinc (v := (v6 + (1 : Int32))) (lv' := [(6, .int (v6 + (1 : Int32))), (0, .ref a0), (1, .ref (G.1 0)), (2, .ref (G.1 111)), (3, .ref (G.1 112)), (4, .ref (G.1 113)), (5, .ref (G.1 114))]) hx hb dL_law_289 hl (k := 6) rfl rfl (by decide) rfl (fun ls hl => ?_)
  refine lv_goto (tgt := 156) hx hb dL_law_292 (by decide) ?_
  exact hK156 n (v6 + (1 : Int32)) _ _ _ _ hq hH (lv_sub hl [1, 2, 3, 4, 5, 6, 0] rfl)
set_option maxRecDepth 100000 in
set_option maxHeartbeats 4000000 in
theorem s_L_law_287 {Q : Unit} (hst : l.stackTraces = false) (hG : G.2 = 115) (hS0 : va_X a0 L xs s s.heap) (ha0 : a0 < b) (hL : L ≤ 260) (hbb : b = s.heap.size) (C0 : wCx p m c s #[Value.ref a0] meth cL_law 9 RL ret D cs ad b) : ∀ (n : Nat) (I : wI) (H : Heap) (locs : List Loc) (ls : Array Slot), v_L_law_287 Q n I → wH D cs b G I s H locs → lv_has ls 9 [] → W p l e room_1 s m #[Value.ref a0] below meth c H locs n (12 * n) (lw_Z below #[Value.ref a0] s) (F0 m 287 ls []) := by
  obtain ⟨hX, hr, hlk, hK, hE⟩ := id C0
  have hx := hX.1
  have hb := hX.2.1
  have hown := hX.2.2.2.1
  have hts := hX.2.2.2.2
  intro n I H locs ls hq hH hl
  unfold v_L_law_287 at hq
  obtain ⟨hn, hq⟩ := hq
  refine lv_iconst (v := 0) hx hb dL_law_287 (by decide) ?_
  exact hq.elim
set_option maxRecDepth 100000 in
set_option maxHeartbeats 4000000 in
theorem s_L_law_281 {Q : Unit} {K156 : Nat → Int32 → wI → Prop} (hst : l.stackTraces = false) (hG : G.2 = 115) (hS0 : va_X a0 L xs s s.heap) (ha0 : a0 < b) (hL : L ≤ 260) (hbb : b = s.heap.size) (C0 : wCx p m c s #[Value.ref a0] meth cL_law 9 RL ret D cs ad b) (hK156 : ∀ (n : Nat) (v6 : Int32) (I : wI) (H : Heap) (locs : List Loc) (ls : Array Slot), K156 n v6 I → wH D cs b G I s H locs → lv_has ls 9 [(0, .ref a0), (1, .ref (G.1 0)), (2, .ref (G.1 111)), (3, .ref (G.1 112)), (4, .ref (G.1 113)), (5, .ref (G.1 114)), (6, .int v6)] → W p l e room_1 s m #[Value.ref a0] below meth c H locs n (12 * n) (lw_Z below #[Value.ref a0] s) (F0 m 156 ls [])) : ∀ (n : Nat) (v6 : Int32) (t0 : Int32) (I : wI) (H : Heap) (locs : List Loc) (ls : Array Slot), v_L_law_281 Q K156 n v6 t0 I → wH D cs b G I s H locs → lv_has ls 9 [(0, .ref a0), (1, .ref (G.1 0)), (2, .ref (G.1 111)), (3, .ref (G.1 112)), (4, .ref (G.1 113)), (5, .ref (G.1 114)), (6, .int v6)] → W p l e room_1 s m #[Value.ref a0] below meth c H locs n (12 * n) (lw_Z below #[Value.ref a0] s) (F0 m 281 ls [.int t0, .ref (G.1 114), .ref (G.1 113), .ref (G.1 112), .ref (G.1 111), .ref (G.1 0)]) := by
  obtain ⟨hX, hr, hlk, hK, hE⟩ := id C0
  have hx := hX.1
  have hb := hX.2.1
  have hown := hX.2.2.2.1
  have hts := hX.2.2.2.2
  intro n v6 t0 I H locs ls hq hH hl
  unfold v_L_law_281 at hq
  obtain ⟨hn, hq⟩ := hq
  obtain ⟨hn, hq⟩ := hq
  obtain ⟨hp, hq⟩ := hq
  refine n_cI hH (w_rS (As := [.ref (G.1 0), .ref (G.1 111), .ref (G.1 112), .ref (G.1 113), .ref (G.1 114), .int t0]) (rest := []) hX hK hE hH (c_L_isAhead hst hG  _ _ hp) q3_118 q3_119 q1_0 q3_120 hd_L_isAhead.2 ⟨Nat.le_of_ble_eq_true rfl, Nat.le_of_ble_eq_true rfl⟩ ⟨rfl, rfl⟩ rfl hl.1 rfl (Nat.le_of_ble_eq_true rfl) dL_law_281 (lw_fit hn (by decide))) (by decide) (fun r1 I2 H locs hpo hH => ?_)
  have hq := hq r1 I2 hpo
  refine lv_if_ne (tgt := 289) hx hb dL_law_284 (by decide) (fun hc => ?_) (fun hc => ?_)
  · have hq := hq.1 hc
    exact s_L_law_289 hst hG hS0 ha0 hL hbb C0 hK156 (n + 1) v6 _ _ _ _ hq hH (lv_sub hl [0, 1, 2, 3, 4, 5, 6] rfl)
  · have hq := hq.2 hc
    exact s_L_law_287 hst hG hS0 ha0 hL hbb C0  (n + 1) _ _ _ _ hq hH (lv_sub hl [] rfl)
set_option maxRecDepth 100000 in
set_option maxHeartbeats 4000000 in
theorem s_L_law_254 {Q : Unit} {K156 : Nat → Int32 → wI → Prop} (hst : l.stackTraces = false) (hG : G.2 = 115) (hS0 : va_X a0 L xs s s.heap) (ha0 : a0 < b) (hL : L ≤ 260) (hbb : b = s.heap.size) (C0 : wCx p m c s #[Value.ref a0] meth cL_law 9 RL ret D cs ad b) (hK156 : ∀ (n : Nat) (v6 : Int32) (I : wI) (H : Heap) (locs : List Loc) (ls : Array Slot), K156 n v6 I → wH D cs b G I s H locs → lv_has ls 9 [(0, .ref a0), (1, .ref (G.1 0)), (2, .ref (G.1 111)), (3, .ref (G.1 112)), (4, .ref (G.1 113)), (5, .ref (G.1 114)), (6, .int v6)] → W p l e room_1 s m #[Value.ref a0] below meth c H locs n (12 * n) (lw_Z below #[Value.ref a0] s) (F0 m 156 ls [])) : ∀ (n : Nat) (v6 : Int32) (I : wI) (H : Heap) (locs : List Loc) (ls : Array Slot), v_L_law_254 Q K156 n v6 I → wH D cs b G I s H locs → lv_has ls 9 [(0, .ref a0), (1, .ref (G.1 0)), (2, .ref (G.1 111)), (3, .ref (G.1 112)), (4, .ref (G.1 113)), (5, .ref (G.1 114)), (6, .int v6)] → W p l e room_1 s m #[Value.ref a0] below meth c H locs n (12 * n) (lw_Z below #[Value.ref a0] s) (F0 m 254 ls []) := by
  obtain ⟨hX, hr, hlk, hK, hE⟩ := id C0
  have hx := hX.1
  have hb := hX.2.1
  have hown := hX.2.2.2.1
  have hts := hX.2.2.2.2
  intro n v6 I H locs ls hq hH hl
  unfold v_L_law_254 at hq
  obtain ⟨hn, hq⟩ := hq
  refine lv_iload hx hb dL_law_254 (lv_at hl 6 rfl) ?_
  refine lv_iconst (v := 3) hx hb dL_law_256 (by decide) ?_
  refine lv_irem hx hb dL_law_257 (by decide) ?_
  refine lv_iconst (v := 2) hx hb dL_law_258 (by decide) ?_
  refine lv_icmp_ne (tgt := 289) hx hb dL_law_259 (by decide) (fun hc => ?_) (fun hc => ?_)
  · have hq := hq.1 hc
    exact s_L_law_289 hst hG hS0 ha0 hL hbb C0 hK156 n v6 _ _ _ _ hq hH (lv_sub hl [0, 1, 2, 3, 4, 5, 6] rfl)
  · have hq := hq.2 hc
    refine lv_aload_n hx hb dL_law_262 rfl (lv_at hl 1 rfl) ?_
    refine lv_aload_n hx hb dL_law_263 rfl (lv_at hl 2 rfl) ?_
    refine lv_aload_n hx hb dL_law_264 rfl (lv_at hl 3 rfl) ?_
    refine lv_aload hx hb dL_law_265 (lv_at hl 4 rfl) ?_
    refine lv_aload hx hb dL_law_267 (lv_at hl 5 rfl) ?_
    refine lv_iload hx hb dL_law_269 (lv_at hl 6 rfl) ?_
    refine lv_bipush (v := 8) hx hb dL_law_271 (by decide) ?_
    refine lv_icmp_ne (tgt := 280) hx hb dL_law_273 (by decide) (fun hc => ?_) (fun hc => ?_)
    · have hq := hq.1 hc
      refine lv_iconst (v := 2) hx hb dL_law_280 (by decide) ?_
      exact s_L_law_281 hst hG hS0 ha0 hL hbb C0 hK156 n v6 (2 : Int32) _ _ _ _ hq hH (lv_sub hl [0, 1, 2, 3, 4, 5, 6] rfl)
    · have hq := hq.2 hc
      refine lv_iconst (v := 4) hx hb dL_law_276 (by decide) ?_
      refine lv_goto (tgt := 281) hx hb dL_law_277 (by decide) ?_
      exact s_L_law_281 hst hG hS0 ha0 hL hbb C0 hK156 n v6 (4 : Int32) _ _ _ _ hq hH (lv_sub hl [0, 1, 2, 3, 4, 5, 6] rfl)
set_option maxRecDepth 100000 in
set_option maxHeartbeats 4000000 in
theorem s_L_law_211 {Q : Unit} {K156 : Nat → Int32 → wI → Prop} (hst : l.stackTraces = false) (hG : G.2 = 115) (hS0 : va_X a0 L xs s s.heap) (ha0 : a0 < b) (hL : L ≤ 260) (hbb : b = s.heap.size) (C0 : wCx p m c s #[Value.ref a0] meth cL_law 9 RL ret D cs ad b) (hK156 : ∀ (n : Nat) (v6 : Int32) (I : wI) (H : Heap) (locs : List Loc) (ls : Array Slot), K156 n v6 I → wH D cs b G I s H locs → lv_has ls 9 [(0, .ref a0), (1, .ref (G.1 0)), (2, .ref (G.1 111)), (3, .ref (G.1 112)), (4, .ref (G.1 113)), (5, .ref (G.1 114)), (6, .int v6)] → W p l e room_1 s m #[Value.ref a0] below meth c H locs n (12 * n) (lw_Z below #[Value.ref a0] s) (F0 m 156 ls [])) : ∀ (n : Nat) (v6 : Int32) (t0 : Int32) (t1 : Int32) (I : wI) (H : Heap) (locs : List Loc) (ls : Array Slot), v_L_law_211 Q K156 n v6 t0 t1 I → wH D cs b G I s H locs → lv_has ls 9 [(0, .ref a0), (1, .ref (G.1 0)), (2, .ref (G.1 111)), (3, .ref (G.1 112)), (4, .ref (G.1 113)), (5, .ref (G.1 114)), (6, .int v6)] → W p l e room_1 s m #[Value.ref a0] below meth c H locs n (12 * n) (lw_Z below #[Value.ref a0] s) (F0 m 211 ls [.int t0, .int t1, .ref (G.1 0)]) := by
  obtain ⟨hX, hr, hlk, hK, hE⟩ := id C0
  have hx := hX.1
  have hb := hX.2.1
  have hown := hX.2.2.2.1
  have hts := hX.2.2.2.2
  intro n v6 t0 t1 I H locs ls hq hH hl
  unfold v_L_law_211 at hq
  obtain ⟨hn, hq⟩ := hq
  refine lv_aload_n hx hb dL_law_211 rfl (lv_at hl 2 rfl) ?_
  refine lv_aload_n hx hb dL_law_212 rfl (lv_at hl 3 rfl) ?_
  refine lv_aload hx hb dL_law_213 (lv_at hl 4 rfl) ?_
  refine lv_aload hx hb dL_law_215 (lv_at hl 5 rfl) ?_
  obtain ⟨hn, hq⟩ := hq
  obtain ⟨hp, hq⟩ := hq
  refine n_cI hH (w_rS (As := [.ref (G.1 0), .int t1, .int t0, .ref (G.1 111), .ref (G.1 112), .ref (G.1 113), .ref (G.1 114)]) (rest := []) hX hK hE hH (c_L_act hst  _ _ _ hp) q3_124 q3_125 q1_0 q3_126 hd_L_act.2 ⟨Nat.le_of_ble_eq_true rfl, Nat.le_of_ble_eq_true rfl⟩ ⟨rfl, rfl⟩ rfl hl.1 rfl (Nat.le_of_ble_eq_true rfl) dL_law_217 (lw_fit hn (by decide))) (by decide) (fun r1 I2 H locs hpo hH => ?_)
  have hq := hq r1 I2 hpo
  refine lv_if_eq (tgt := 287) hx hb dL_law_220 (by decide) (fun hc => ?_) (fun hc => ?_)
  · have hq := hq.1 hc
    exact s_L_law_287 hst hG hS0 ha0 hL hbb C0  (n + 4) _ _ _ _ hq hH (lv_sub hl [] rfl)
  · have hq := hq.2 hc
    refine lv_aload_n hx hb dL_law_223 rfl (lv_at hl 1 rfl) ?_
    refine lv_aload_n hx hb dL_law_224 rfl (lv_at hl 2 rfl) ?_
    refine lv_aload_n hx hb dL_law_225 rfl (lv_at hl 3 rfl) ?_
    refine lv_aload hx hb dL_law_226 (lv_at hl 4 rfl) ?_
    refine lv_aload hx hb dL_law_228 (lv_at hl 5 rfl) ?_
    obtain ⟨hp, hq⟩ := hq
    refine w_cIp hH (w_rS (As := [.ref (G.1 0), .ref (G.1 111), .ref (G.1 112), .ref (G.1 113), .ref (G.1 114)]) (rest := []) hX hK hE hH (c_L_isSo   _ hp) q3_100 q3_101 q1_0 q3_102 hd_L_isSo.2 ⟨Nat.le_of_ble_eq_true rfl, Nat.le_of_ble_eq_true rfl⟩ ⟨rfl, rfl⟩ rfl hl.1 rfl (Nat.le_of_ble_eq_true rfl) dL_law_230 (lw_fit0 hn)) (fun r3  H locs hpo hH => ?_)
    have hq := hq r3  hpo
    refine lv_if_eq (tgt := 287) hx hb dL_law_233 (by decide) (fun hc => ?_) (fun hc => ?_)
    · have hq := hq.1 hc
      exact s_L_law_287 hst hG hS0 ha0 hL hbb C0  (n + 4) _ _ _ _ hq hH (lv_sub hl [] rfl)
    · have hq := hq.2 hc
      refine lv_iload hx hb dL_law_236 (lv_at hl 6 rfl) ?_
      refine lv_iconst (v := 4) hx hb dL_law_238 (by decide) ?_
      refine lv_irem hx hb dL_law_239 (by decide) ?_
      refine lv_iconst (v := 3) hx hb dL_law_240 (by decide) ?_
      refine lv_icmp_ne (tgt := 254) hx hb dL_law_241 (by decide) (fun hc => ?_) (fun hc => ?_)
      · have hq := hq.1 hc
        exact s_L_law_254 hst hG hS0 ha0 hL hbb C0 hK156 (n + 4) v6 _ _ _ _ hq hH (lv_sub hl [0, 1, 2, 3, 4, 5, 6] rfl)
      · have hq := hq.2 hc
        refine lv_aload_n hx hb dL_law_244 rfl (lv_at hl 1 rfl) ?_
        refine lv_aload_n hx hb dL_law_245 rfl (lv_at hl 3 rfl) ?_
        refine lv_aload hx hb dL_law_246 (lv_at hl 4 rfl) ?_
        obtain ⟨hn, hq⟩ := hq
        obtain ⟨hp, hq⟩ := hq
        refine n_cI hH (w_rS (As := [.ref (G.1 0), .ref (G.1 112), .ref (G.1 113)]) (rest := []) hX hK hE hH (c_L_areKeys hst hG   _ hp) q3_78 q3_79 q1_0 q3_80 hd_L_areKeys.2 ⟨Nat.le_of_ble_eq_true rfl, Nat.le_of_ble_eq_true rfl⟩ ⟨rfl, rfl⟩ rfl hl.1 rfl (Nat.le_of_ble_eq_true rfl) dL_law_248 (lw_fit hn (by decide))) (by decide) (fun r4 I5 H locs hpo hH => ?_)
        have hq := hq r4 I5 hpo
        refine lv_if_eq (tgt := 287) hx hb dL_law_251 (by decide) (fun hc => ?_) (fun hc => ?_)
        · have hq := hq.1 hc
          exact s_L_law_287 hst hG hS0 ha0 hL hbb C0  ((n + 4) + 31) _ _ _ _ hq hH (lv_sub hl [] rfl)
        · have hq := hq.2 hc
          exact s_L_law_254 hst hG hS0 ha0 hL hbb C0 hK156 ((n + 4) + 31) v6 _ _ _ _ hq hH (lv_sub hl [0, 1, 2, 3, 4, 5, 6] rfl)
set_option maxRecDepth 100000 in
set_option maxHeartbeats 4000000 in
theorem s_L_law_199 {Q : Unit} {K156 : Nat → Int32 → wI → Prop} (hst : l.stackTraces = false) (hG : G.2 = 115) (hS0 : va_X a0 L xs s s.heap) (ha0 : a0 < b) (hL : L ≤ 260) (hbb : b = s.heap.size) (C0 : wCx p m c s #[Value.ref a0] meth cL_law 9 RL ret D cs ad b) (hK156 : ∀ (n : Nat) (v6 : Int32) (I : wI) (H : Heap) (locs : List Loc) (ls : Array Slot), K156 n v6 I → wH D cs b G I s H locs → lv_has ls 9 [(0, .ref a0), (1, .ref (G.1 0)), (2, .ref (G.1 111)), (3, .ref (G.1 112)), (4, .ref (G.1 113)), (5, .ref (G.1 114)), (6, .int v6)] → W p l e room_1 s m #[Value.ref a0] below meth c H locs n (12 * n) (lw_Z below #[Value.ref a0] s) (F0 m 156 ls [])) : ∀ (n : Nat) (v6 : Int32) (v8 : Int32) (t0 : Int32) (I : wI) (H : Heap) (locs : List Loc) (ls : Array Slot), v_L_law_199 Q K156 n v6 v8 t0 I → wH D cs b G I s H locs → lv_has ls 9 [(0, .ref a0), (1, .ref (G.1 0)), (2, .ref (G.1 111)), (3, .ref (G.1 112)), (4, .ref (G.1 113)), (5, .ref (G.1 114)), (6, .int v6), (8, .int v8)] → W p l e room_1 s m #[Value.ref a0] below meth c H locs n (12 * n) (lw_Z below #[Value.ref a0] s) (F0 m 199 ls [.int t0, .ref (G.1 0)]) := by
  obtain ⟨hX, hr, hlk, hK, hE⟩ := id C0
  have hx := hX.1
  have hb := hX.2.1
  have hown := hX.2.2.2.1
  have hts := hX.2.2.2.2
  intro n v6 v8 t0 I H locs ls hq hH hl
  unfold v_L_law_199 at hq
  obtain ⟨hn, hq⟩ := hq
  refine lv_iload hx hb dL_law_199 (lv_at hl 6 rfl) ?_
  refine lv_iconst (v := 5) hx hb dL_law_201 (by decide) ?_
  refine lv_icmp_ne (tgt := 209) hx hb dL_law_202 (by decide) (fun hc => ?_) (fun hc => ?_)
  · have hq := hq.1 hc
    refine lv_iload hx hb dL_law_209 (lv_at hl 7 rfl) ?_
    exact s_L_law_211 hst hG hS0 ha0 hL hbb C0 hK156 n v6 v8 t0 _ _ _ _ hq hH (lv_sub hl [0, 1, 2, 3, 4, 5, 6] rfl)
  · have hq := hq.2 hc
    refine lv_iconst (v := 4) hx hb dL_law_205 (by decide) ?_
    refine lv_goto (tgt := 211) hx hb dL_law_206 (by decide) ?_
    exact s_L_law_211 hst hG hS0 ha0 hL hbb C0 hK156 n v6 (4 : Int32) t0 _ _ _ _ hq hH (lv_sub hl [0, 1, 2, 3, 4, 5, 6] rfl)
set_option maxRecDepth 100000 in
set_option maxHeartbeats 4000000 in
theorem s_L_law_156 {Q : Unit} (hst : l.stackTraces = false) (hG : G.2 = 115) (hS0 : va_X a0 L xs s s.heap) (ha0 : a0 < b) (hL : L ≤ 260) (hbb : b = s.heap.size) (C0 : wCx p m c s #[Value.ref a0] meth cL_law 9 RL ret D cs ad b) : ∀ (f : Nat) (n : Nat) (v6 : Int32) (I : wI) (H : Heap) (locs : List Loc) (ls : Array Slot), v_L_law_156 Q f n v6 I → wH D cs b G I s H locs → lv_has ls 9 [(0, .ref a0), (1, .ref (G.1 0)), (2, .ref (G.1 111)), (3, .ref (G.1 112)), (4, .ref (G.1 113)), (5, .ref (G.1 114)), (6, .int v6)] → W p l e room_1 s m #[Value.ref a0] below meth c H locs n (12 * n) (lw_Z below #[Value.ref a0] s) (F0 m 156 ls []) := by
  obtain ⟨hX, hr, hlk, hK, hE⟩ := id C0
  have hx := hX.1
  have hb := hX.2.1
  have hown := hX.2.2.2.1
  have hts := hX.2.2.2.2
  intro f
  induction f with
  | zero =>
    intro n v6 I H locs ls hq
    exact hq.elim
  | succ f hK156 =>
    intro n v6 I H locs ls hq hH hl
    have hq : g_L_law_156 Q (v_L_law_156 Q f) n v6 I := hq
    unfold g_L_law_156 at hq
    obtain ⟨hn, hq⟩ := hq
    refine lv_iload hx hb dL_law_156 (lv_at hl 6 rfl) ?_
    refine lv_bipush (v := 44) hx hb dL_law_158 (by decide) ?_
    refine lv_icmp_ge (tgt := 295) hx hb dL_law_160 (by decide) (fun hc => ?_) (fun hc => ?_)
    · have hq := hq.1 hc
      refine lv_aload_n hx hb dL_law_295 rfl (lv_at hl 1 rfl) ?_
      refine lv_bipush (v := 6) hx hb dL_law_296 (by decide) ?_
      refine lv_iconst (v := 5) hx hb dL_law_298 (by decide) ?_
      obtain ⟨hn, hq⟩ := hq
      obtain ⟨hp, hq⟩ := hq
      refine n_cIp hH (w_rSW (As := [.ref (G.1 0), .int (6 : Int32), .int (5 : Int32)]) (rest := []) hX hK hE hH (c_L_at hst _ _ _ hp) q2_72 q2_73 q1_0 q2_74 hd_L_at ⟨Nat.le_of_ble_eq_true rfl, Nat.le_of_ble_eq_true rfl⟩ ⟨rfl, rfl⟩ rfl hl.1 rfl (Nat.le_of_ble_eq_true rfl) dL_law_299 (lw_fit hn (by decide))) (by decide) (fun r1  H locs hpo hH => ?_)
      have hq := hq r1  hpo
      refine lv_bipush (v := -31) hx hb dL_law_302 (by decide) ?_
      refine lv_icmp_ne (tgt := 413) hx hb dL_law_304 (by decide) (fun hc => ?_) (fun hc => ?_)
      · have hq := hq.1 hc
        exact s_L_law_413 hst hG hS0 ha0 hL hbb C0  (n + 1) _ _ _ _ hq hH (lv_sub hl [] rfl)
      · have hq := hq.2 hc
        refine lv_aload_n hx hb dL_law_307 rfl (lv_at hl 1 rfl) ?_
        refine lv_iconst (v := 0) hx hb dL_law_308 (by decide) ?_
        refine lv_iconst (v := 5) hx hb dL_law_309 (by decide) ?_
        obtain ⟨hn, hq⟩ := hq
        obtain ⟨hp, hq⟩ := hq
        refine n_cIp hH (w_rSW (As := [.ref (G.1 0), .int (0 : Int32), .int (5 : Int32)]) (rest := []) hX hK hE hH (c_L_at hst _ _ _ hp) q2_72 q2_73 q1_0 q2_74 hd_L_at ⟨Nat.le_of_ble_eq_true rfl, Nat.le_of_ble_eq_true rfl⟩ ⟨rfl, rfl⟩ rfl hl.1 rfl (Nat.le_of_ble_eq_true rfl) dL_law_310 (lw_fit hn (by decide))) (by decide) (fun r2  H locs hpo hH => ?_)
        have hq := hq r2  hpo
        refine lv_bipush (v := -32) hx hb dL_law_313 (by decide) ?_
        refine lv_icmp_ne (tgt := 413) hx hb dL_law_315 (by decide) (fun hc => ?_) (fun hc => ?_)
        · have hq := hq.1 hc
          exact s_L_law_413 hst hG hS0 ha0 hL hbb C0  ((n + 1) + 1) _ _ _ _ hq hH (lv_sub hl [] rfl)
        · have hq := hq.2 hc
          refine lv_aload_n hx hb dL_law_318 rfl (lv_at hl 1 rfl) ?_
          refine lv_iconst (v := 5) hx hb dL_law_319 (by decide) ?_
          refine lv_bipush (v := 6) hx hb dL_law_320 (by decide) ?_
          obtain ⟨hn, hq⟩ := hq
          obtain ⟨hp, hq⟩ := hq
          refine n_cI hH (w_rSW (As := [.ref (G.1 0), .int (5 : Int32), .int (6 : Int32)]) (rest := []) hX hK hE hH (c_L_key hst _ _ _ hp) q2_134 q2_135 q1_0 q2_136 hd_L_key ⟨Nat.le_of_ble_eq_true rfl, Nat.le_of_ble_eq_true rfl⟩ ⟨rfl, rfl⟩ rfl hl.1 rfl (Nat.le_of_ble_eq_true rfl) dL_law_322 (lw_fit hn (by decide))) (by decide) (fun r3 I4 H locs hpo hH => ?_)
          have hq := hq r3 I4 hpo
          refine lv_bipush (v := -31) hx hb dL_law_325 (by decide) ?_
          refine lv_icmp_ne (tgt := 413) hx hb dL_law_327 (by decide) (fun hc => ?_) (fun hc => ?_)
          · have hq := hq.1 hc
            exact s_L_law_413 hst hG hS0 ha0 hL hbb C0  (((n + 1) + 1) + 1) _ _ _ _ hq hH (lv_sub hl [] rfl)
          · have hq := hq.2 hc
            refine lv_aload_n hx hb dL_law_330 rfl (lv_at hl 1 rfl) ?_
            refine lv_iconst (v := 0) hx hb dL_law_331 (by decide) ?_
            refine lv_bipush (v := 6) hx hb dL_law_332 (by decide) ?_
            obtain ⟨hn, hq⟩ := hq
            obtain ⟨hp, hq⟩ := hq
            refine n_cI hH (w_rSW (As := [.ref (G.1 0), .int (0 : Int32), .int (6 : Int32)]) (rest := []) hX hK hE hH (c_L_key hst _ _ _ hp) q2_134 q2_135 q1_0 q2_136 hd_L_key ⟨Nat.le_of_ble_eq_true rfl, Nat.le_of_ble_eq_true rfl⟩ ⟨rfl, rfl⟩ rfl hl.1 rfl (Nat.le_of_ble_eq_true rfl) dL_law_334 (lw_fit hn (by decide))) (by decide) (fun r5 I6 H locs hpo hH => ?_)
            have hq := hq r5 I6 hpo
            refine lv_bipush (v := -32) hx hb dL_law_337 (by decide) ?_
            refine lv_icmp_ne (tgt := 413) hx hb dL_law_339 (by decide) (fun hc => ?_) (fun hc => ?_)
            · have hq := hq.1 hc
              exact s_L_law_413 hst hG hS0 ha0 hL hbb C0  ((((n + 1) + 1) + 1) + 1) _ _ _ _ hq hH (lv_sub hl [] rfl)
            · have hq := hq.2 hc
              refine lv_aload_n hx hb dL_law_342 rfl (lv_at hl 1 rfl) ?_
              refine lv_iconst (v := 0) hx hb dL_law_343 (by decide) ?_
              refine lv_iconst (v := 5) hx hb dL_law_344 (by decide) ?_
              refine lv_iconst (v := 5) hx hb dL_law_345 (by decide) ?_
              obtain ⟨hn, hq⟩ := hq
              obtain ⟨hp, hq⟩ := hq
              refine n_cI hH (w_rSW (As := [.ref (G.1 0), .int (0 : Int32), .int (5 : Int32), .int (5 : Int32)]) (rest := []) hX hK hE hH (c_L_pair hst _ _ _ _ hp) q2_216 q2_217 q1_0 q2_218 hd_L_pair ⟨Nat.le_of_ble_eq_true rfl, Nat.le_of_ble_eq_true rfl⟩ ⟨rfl, rfl⟩ rfl hl.1 rfl (Nat.le_of_ble_eq_true rfl) dL_law_346 (lw_fit hn (by decide))) (by decide) (fun r7 I8 H locs hpo hH => ?_)
              have hq := hq r7 I8 hpo
              refine lv_bipush (v := -31) hx hb dL_law_349 (by decide) ?_
              refine lv_icmp_ne (tgt := 413) hx hb dL_law_351 (by decide) (fun hc => ?_) (fun hc => ?_)
              · have hq := hq.1 hc
                exact s_L_law_413 hst hG hS0 ha0 hL hbb C0  (((((n + 1) + 1) + 1) + 1) + 1) _ _ _ _ hq hH (lv_sub hl [] rfl)
              · have hq := hq.2 hc
                refine lv_aload_n hx hb dL_law_354 rfl (lv_at hl 1 rfl) ?_
                refine lv_iconst (v := 0) hx hb dL_law_355 (by decide) ?_
                refine lv_iconst (v := 0) hx hb dL_law_356 (by decide) ?_
                refine lv_iconst (v := 5) hx hb dL_law_357 (by decide) ?_
                obtain ⟨hn, hq⟩ := hq
                obtain ⟨hp, hq⟩ := hq
                refine n_cI hH (w_rSW (As := [.ref (G.1 0), .int (0 : Int32), .int (0 : Int32), .int (5 : Int32)]) (rest := []) hX hK hE hH (c_L_pair hst _ _ _ _ hp) q2_216 q2_217 q1_0 q2_218 hd_L_pair ⟨Nat.le_of_ble_eq_true rfl, Nat.le_of_ble_eq_true rfl⟩ ⟨rfl, rfl⟩ rfl hl.1 rfl (Nat.le_of_ble_eq_true rfl) dL_law_358 (lw_fit hn (by decide))) (by decide) (fun r9 I10 H locs hpo hH => ?_)
                have hq := hq r9 I10 hpo
                refine lv_bipush (v := -32) hx hb dL_law_361 (by decide) ?_
                refine lv_icmp_ne (tgt := 413) hx hb dL_law_363 (by decide) (fun hc => ?_) (fun hc => ?_)
                · have hq := hq.1 hc
                  exact s_L_law_413 hst hG hS0 ha0 hL hbb C0  ((((((n + 1) + 1) + 1) + 1) + 1) + 1) _ _ _ _ hq hH (lv_sub hl [] rfl)
                · have hq := hq.2 hc
                  refine lv_aload_n hx hb dL_law_366 rfl (lv_at hl 1 rfl) ?_
                  refine lv_bipush (v := 10) hx hb dL_law_367 (by decide) ?_
                  obtain ⟨hn, hq⟩ := hq
                  obtain ⟨hp, hq⟩ := hq
                  refine n_cIp hH (w_rSW (As := [.ref (G.1 0), .int (10 : Int32)]) (rest := []) hX hK hE hH (c_L_count hst _ _ hp) q2_233 q2_234 q1_0 q2_235 hd_L_count ⟨Nat.le_of_ble_eq_true rfl, Nat.le_of_ble_eq_true rfl⟩ ⟨rfl, rfl⟩ rfl hl.1 rfl (Nat.le_of_ble_eq_true rfl) dL_law_369 (lw_fit hn (by decide))) (by decide) (fun r11  H locs hpo hH => ?_)
                  have hq := hq r11  hpo
                  refine lv_bipush (v := -32) hx hb dL_law_372 (by decide) ?_
                  refine lv_icmp_ne (tgt := 413) hx hb dL_law_374 (by decide) (fun hc => ?_) (fun hc => ?_)
                  · have hq := hq.1 hc
                    exact s_L_law_413 hst hG hS0 ha0 hL hbb C0  (((((((n + 1) + 1) + 1) + 1) + 1) + 1) + 1) _ _ _ _ hq hH (lv_sub hl [] rfl)
                  · have hq := hq.2 hc
                    refine lv_aload_n hx hb dL_law_377 rfl (lv_at hl 1 rfl) ?_
                    refine lv_iconst (v := 2) hx hb dL_law_378 (by decide) ?_
                    obtain ⟨hn, hq⟩ := hq
                    obtain ⟨hp, hq⟩ := hq
                    refine n_cI hH (w_rSW (As := [.ref (G.1 0), .int (2 : Int32)]) (rest := []) hX hK hE hH (c_L_openIn hst _ _ hp) q3_23 q3_24 q1_0 q3_25 hd_L_openIn ⟨Nat.le_of_ble_eq_true rfl, Nat.le_of_ble_eq_true rfl⟩ ⟨rfl, rfl⟩ rfl hl.1 rfl (Nat.le_of_ble_eq_true rfl) dL_law_379 (lw_fit hn (by decide))) (by decide) (fun r12 I13 H locs hpo hH => ?_)
                    have hq := hq r12 I13 hpo
                    refine lv_bipush (v := -32) hx hb dL_law_382 (by decide) ?_
                    refine lv_icmp_ne (tgt := 413) hx hb dL_law_384 (by decide) (fun hc => ?_) (fun hc => ?_)
                    · have hq := hq.1 hc
                      exact s_L_law_413 hst hG hS0 ha0 hL hbb C0  ((((((((n + 1) + 1) + 1) + 1) + 1) + 1) + 1) + 1) _ _ _ _ hq hH (lv_sub hl [] rfl)
                    · have hq := hq.2 hc
                      refine lv_aload_n hx hb dL_law_387 rfl (lv_at hl 1 rfl) ?_
                      refine lv_iconst (v := 5) hx hb dL_law_388 (by decide) ?_
                      refine lv_iconst (v := 2) hx hb dL_law_389 (by decide) ?_
                      obtain ⟨hn, hq⟩ := hq
                      obtain ⟨hp, hq⟩ := hq
                      refine n_cI hH (w_rSW (As := [.ref (G.1 0), .int (5 : Int32), .int (2 : Int32)]) (rest := []) hX hK hE hH (c_L_ifTurned hst _ _ _ hp) q3_67 q3_68 q1_0 q3_69 hd_L_ifTurned ⟨Nat.le_of_ble_eq_true rfl, Nat.le_of_ble_eq_true rfl⟩ ⟨rfl, rfl⟩ rfl hl.1 rfl (Nat.le_of_ble_eq_true rfl) dL_law_390 (lw_fit hn (by decide))) (by decide) (fun r14 I15 H locs hpo hH => ?_)
                      have hq := hq r14 I15 hpo
                      refine lv_bipush (v := -31) hx hb dL_law_393 (by decide) ?_
                      refine lv_icmp_ne (tgt := 413) hx hb dL_law_395 (by decide) (fun hc => ?_) (fun hc => ?_)
                      · have hq := hq.1 hc
                        exact s_L_law_413 hst hG hS0 ha0 hL hbb C0  (((((((((n + 1) + 1) + 1) + 1) + 1) + 1) + 1) + 1) + 1) _ _ _ _ hq hH (lv_sub hl [] rfl)
                      · have hq := hq.2 hc
                        refine lv_aload_n hx hb dL_law_398 rfl (lv_at hl 1 rfl) ?_
                        refine lv_iconst (v := 0) hx hb dL_law_399 (by decide) ?_
                        refine lv_iconst (v := 2) hx hb dL_law_400 (by decide) ?_
                        obtain ⟨hn, hq⟩ := hq
                        obtain ⟨hp, hq⟩ := hq
                        refine n_cI hH (w_rSW (As := [.ref (G.1 0), .int (0 : Int32), .int (2 : Int32)]) (rest := []) hX hK hE hH (c_L_ifTurned hst _ _ _ hp) q3_67 q3_68 q1_0 q3_69 hd_L_ifTurned ⟨Nat.le_of_ble_eq_true rfl, Nat.le_of_ble_eq_true rfl⟩ ⟨rfl, rfl⟩ rfl hl.1 rfl (Nat.le_of_ble_eq_true rfl) dL_law_401 (lw_fit hn (by decide))) (by decide) (fun r16 I17 H locs hpo hH => ?_)
                        have hq := hq r16 I17 hpo
                        refine lv_bipush (v := -32) hx hb dL_law_404 (by decide) ?_
                        refine lv_icmp_ne (tgt := 413) hx hb dL_law_406 (by decide) (fun hc => ?_) (fun hc => ?_)
                        · have hq := hq.1 hc
                          exact s_L_law_413 hst hG hS0 ha0 hL hbb C0  ((((((((((n + 1) + 1) + 1) + 1) + 1) + 1) + 1) + 1) + 1) + 1) _ _ _ _ hq hH (lv_sub hl [] rfl)
                        · have hq := hq.2 hc
                          refine lv_iconst (v := 1) hx hb dL_law_409 (by decide) ?_
                          refine lv_goto (tgt := 414) hx hb dL_law_410 (by decide) ?_
                          exact s_L_law_414 hst hG hS0 ha0 hL hbb C0  ((((((((((n + 1) + 1) + 1) + 1) + 1) + 1) + 1) + 1) + 1) + 1) (1 : Int32) _ _ _ _ hq hH (lv_sub hl [] rfl)
    · have hq := hq.2 hc
      refine lv_aload_n hx hb dL_law_163 rfl (lv_at hl 0 rfl) ?_
      refine lv_iconst (v := 2) hx hb dL_law_164 (by decide) ?_
      refine lv_iload hx hb dL_law_165 (lv_at hl 6 rfl) ?_
      refine lv_imul hx hb dL_law_167 ?_
      obtain ⟨hp, hq⟩ := hq
      refine w_cIp hH (w_rSC (As := [.ref a0, .int ((2 : Int32) * v6)]) (rest := []) hX hK hE hS0 ha0 hbb hH (c_L_cell hL _ _ hp) q1_200 q1_201 q1_0 q1_202 hd_L_cell.2 ⟨Nat.le_of_ble_eq_true rfl, Nat.le_of_ble_eq_true rfl⟩ ⟨rfl, rfl⟩ rfl hl.1 rfl (Nat.le_of_ble_eq_true rfl) dL_law_168 (lw_fit0 hn)) (fun r18  H locs hpo hH => ?_)
      have hq := hq r18  hpo
      refine lv_istore (lv' := [(7, .int r18), (0, .ref a0), (1, .ref (G.1 0)), (2, .ref (G.1 111)), (3, .ref (G.1 112)), (4, .ref (G.1 113)), (5, .ref (G.1 114)), (6, .int v6)]) hx hb dL_law_171 hl (by decide) rfl (fun ls hl => ?_)
      refine lv_aload_n hx hb dL_law_173 rfl (lv_at hl 1 rfl) ?_
      refine lv_iconst (v := 2) hx hb dL_law_174 (by decide) ?_
      refine lv_iload hx hb dL_law_175 (lv_at hl 7 rfl) ?_
      refine lv_imul hx hb dL_law_177 ?_
      refine lv_iconst (v := 1) hx hb dL_law_178 (by decide) ?_
      refine lv_iadd hx hb dL_law_179 ?_
      obtain ⟨hp, hq⟩ := hq
      refine w_cIp hH (w_rSC (As := [.ref a0, .int (((2 : Int32) * v6) + (1 : Int32))]) (rest := []) hX hK hE hS0 ha0 hbb hH (c_L_cell hL _ _ hp) q1_200 q1_201 q1_0 q1_202 hd_L_cell.2 ⟨Nat.le_of_ble_eq_true rfl, Nat.le_of_ble_eq_true rfl⟩ ⟨rfl, rfl⟩ rfl hl.1 rfl (Nat.le_of_ble_eq_true rfl) dL_law_180 (lw_fit0 hn)) (fun r19  H locs hpo hH => ?_)
      have hq := hq r19  hpo
      refine lv_istore (lv' := [(8, .int r19), (7, .int r18), (0, .ref a0), (1, .ref (G.1 0)), (2, .ref (G.1 111)), (3, .ref (G.1 112)), (4, .ref (G.1 113)), (5, .ref (G.1 114)), (6, .int v6)]) hx hb dL_law_183 hl (by decide) rfl (fun ls hl => ?_)
      refine lv_aload_n hx hb dL_law_185 rfl (lv_at hl 3 rfl) ?_
      refine lv_iload hx hb dL_law_186 (lv_at hl 8 rfl) ?_
      refine lv_iconst (v := 5) hx hb dL_law_188 (by decide) ?_
      refine lv_icmp_ne (tgt := 197) hx hb dL_law_189 (by decide) (fun hc => ?_) (fun hc => ?_)
      · have hq := hq.1 hc
        refine lv_iload hx hb dL_law_197 (lv_at hl 1 rfl) ?_
        exact s_L_law_199 hst hG hS0 ha0 hL hbb C0 hK156 n v6 r19 r18 _ _ _ _ hq hH (lv_sub hl [2, 3, 4, 5, 6, 7, 8, 0] rfl)
      · have hq := hq.2 hc
        refine lv_bipush (v := 14) hx hb dL_law_192 (by decide) ?_
        refine lv_goto (tgt := 199) hx hb dL_law_194 (by decide) ?_
        exact s_L_law_199 hst hG hS0 ha0 hL hbb C0 hK156 n v6 r19 (14 : Int32) _ _ _ _ hq hH (lv_sub hl [2, 3, 4, 5, 6, 7, 8, 0] rfl)
set_option maxRecDepth 100000 in
set_option maxHeartbeats 4000000 in
theorem s_L_law_151 {Q : Unit} (hst : l.stackTraces = false) (hG : G.2 = 115) (hS0 : va_X a0 L xs s s.heap) (ha0 : a0 < b) (hL : L ≤ 260) (hbb : b = s.heap.size) (C0 : wCx p m c s #[Value.ref a0] meth cL_law 9 RL ret D cs ad b) : ∀ (n : Nat) (I : wI) (H : Heap) (locs : List Loc) (ls : Array Slot), v_L_law_151 Q n I → wH D cs b G I s H locs → lv_has ls 9 [] → W p l e room_1 s m #[Value.ref a0] below meth c H locs n (12 * n) (lw_Z below #[Value.ref a0] s) (F0 m 151 ls []) := by
  obtain ⟨hX, hr, hlk, hK, hE⟩ := id C0
  have hx := hX.1
  have hb := hX.2.1
  have hown := hX.2.2.2.1
  have hts := hX.2.2.2.2
  intro n I H locs ls hq hH hl
  unfold v_L_law_151 at hq
  obtain ⟨hn, hq⟩ := hq
  refine lv_iconst (v := 0) hx hb dL_law_151 (by decide) ?_
  exact hq.elim
set_option maxRecDepth 100000 in
set_option maxHeartbeats 4000000 in
theorem s_L_law_89 {Q : Unit} {K36 : Nat → Int32 → wI → Prop} (hst : l.stackTraces = false) (hG : G.2 = 115) (hS0 : va_X a0 L xs s s.heap) (ha0 : a0 < b) (hL : L ≤ 260) (hbb : b = s.heap.size) (C0 : wCx p m c s #[Value.ref a0] meth cL_law 9 RL ret D cs ad b) (hK36 : ∀ (n : Nat) (v6 : Int32) (I : wI) (H : Heap) (locs : List Loc) (ls : Array Slot), K36 n v6 I → wH D cs b G I s H locs → lv_has ls 9 [(0, .ref a0), (1, .ref (G.1 0)), (2, .ref (G.1 111)), (3, .ref (G.1 112)), (4, .ref (G.1 113)), (5, .ref (G.1 114)), (6, .int v6)] → W p l e room_1 s m #[Value.ref a0] below meth c H locs n (12 * n) (lw_Z below #[Value.ref a0] s) (F0 m 36 ls [])) : ∀ (n : Nat) (v6 : Int32) (t0 : Int32) (t1 : Int32) (I : wI) (H : Heap) (locs : List Loc) (ls : Array Slot), v_L_law_89 Q K36 n v6 t0 t1 I → wH D cs b G I s H locs → lv_has ls 9 [(0, .ref a0), (1, .ref (G.1 0)), (2, .ref (G.1 111)), (3, .ref (G.1 112)), (4, .ref (G.1 113)), (5, .ref (G.1 114)), (6, .int v6)] → W p l e room_1 s m #[Value.ref a0] below meth c H locs n (12 * n) (lw_Z below #[Value.ref a0] s) (F0 m 89 ls [.int t0, .int t1, .ref (G.1 112)]) := by
  obtain ⟨hX, hr, hlk, hK, hE⟩ := id C0
  have hx := hX.1
  have hb := hX.2.1
  have hown := hX.2.2.2.1
  have hts := hX.2.2.2.2
  intro n v6 t0 t1 I H locs ls hq hH hl
  unfold v_L_law_89 at hq
  obtain ⟨hn, hq⟩ := hq
  obtain ⟨hc, hq⟩ := hq
  refine w_iast5 hX hK hH (la112 hH.2.2.1) hc dL_law_89 (fun I1 H locs hI hH => ?_)
  have hq := hq I1 hI
  refine lv_iinc (v := (v6 + (1 : Int32))) (lv' := [(6, .int (v6 + (1 : Int32))), (0, .ref a0), (1, .ref (G.1 0)), (2, .ref (G.1 111)), (3, .ref (G.1 112)), (4, .ref (G.1 113)), (5, .ref (G.1 114))]) hx hb dL_law_90 hl (k := 6) rfl rfl (by decide) rfl (fun ls hl => ?_)
  refine lv_goto (tgt := 36) hx hb dL_law_93 (by decide) ?_
  exact hK36 n (v6 + (1 : Int32)) _ _ _ _ hq hH (lv_sub hl [1, 2, 3, 4, 5, 6, 0] rfl)
set_option maxRecDepth 100000 in
set_option maxHeartbeats 4000000 in
theorem s_L_law_36 {Q : Unit} (hst : l.stackTraces = false) (hG : G.2 = 115) (hS0 : va_X a0 L xs s s.heap) (ha0 : a0 < b) (hL : L ≤ 260) (hbb : b = s.heap.size) (C0 : wCx p m c s #[Value.ref a0] meth cL_law 9 RL ret D cs ad b) : ∀ (f : Nat) (n : Nat) (v6 : Int32) (I : wI) (H : Heap) (locs : List Loc) (ls : Array Slot), v_L_law_36 Q f n v6 I → wH D cs b G I s H locs → lv_has ls 9 [(0, .ref a0), (1, .ref (G.1 0)), (2, .ref (G.1 111)), (3, .ref (G.1 112)), (4, .ref (G.1 113)), (5, .ref (G.1 114)), (6, .int v6)] → W p l e room_1 s m #[Value.ref a0] below meth c H locs n (12 * n) (lw_Z below #[Value.ref a0] s) (F0 m 36 ls []) := by
  obtain ⟨hX, hr, hlk, hK, hE⟩ := id C0
  have hx := hX.1
  have hb := hX.2.1
  have hown := hX.2.2.2.1
  have hts := hX.2.2.2.2
  intro f
  induction f with
  | zero =>
    intro n v6 I H locs ls hq
    exact hq.elim
  | succ f hK36 =>
    intro n v6 I H locs ls hq hH hl
    have hq : g_L_law_36 Q (v_L_law_36 Q f) n v6 I := hq
    unfold g_L_law_36 at hq
    obtain ⟨hn, hq⟩ := hq
    refine lv_iload hx hb dL_law_36 (lv_at hl 6 rfl) ?_
    refine lv_iconst (v := 5) hx hb dL_law_38 (by decide) ?_
    refine lv_icmp_ge (tgt := 96) hx hb dL_law_39 (by decide) (fun hc => ?_) (fun hc => ?_)
    · have hq := hq.1 hc
      refine lv_aload_n hx hb dL_law_96 rfl (lv_at hl 1 rfl) ?_
      refine lv_aload_n hx hb dL_law_97 rfl (lv_at hl 2 rfl) ?_
      refine lv_aload_n hx hb dL_law_98 rfl (lv_at hl 3 rfl) ?_
      refine lv_aload hx hb dL_law_99 (lv_at hl 4 rfl) ?_
      refine lv_aload hx hb dL_law_101 (lv_at hl 5 rfl) ?_
      obtain ⟨hp, hq⟩ := hq
      refine w_cIp hH (w_rS (As := [.ref (G.1 0), .ref (G.1 111), .ref (G.1 112), .ref (G.1 113), .ref (G.1 114)]) (rest := []) hX hK hE hH (c_L_isSo   _ hp) q3_100 q3_101 q1_0 q3_102 hd_L_isSo.2 ⟨Nat.le_of_ble_eq_true rfl, Nat.le_of_ble_eq_true rfl⟩ ⟨rfl, rfl⟩ rfl hl.1 rfl (Nat.le_of_ble_eq_true rfl) dL_law_103 (lw_fit0 hn)) (fun r1  H locs hpo hH => ?_)
      have hq := hq r1  hpo
      refine lv_if_eq (tgt := 151) hx hb dL_law_106 (by decide) (fun hc => ?_) (fun hc => ?_)
      · have hq := hq.1 hc
        exact s_L_law_151 hst hG hS0 ha0 hL hbb C0  n _ _ _ _ hq hH (lv_sub hl [] rfl)
      · have hq := hq.2 hc
        refine lv_aload_n hx hb dL_law_109 rfl (lv_at hl 1 rfl) ?_
        refine lv_aload_n hx hb dL_law_110 rfl (lv_at hl 3 rfl) ?_
        refine lv_aload hx hb dL_law_111 (lv_at hl 4 rfl) ?_
        obtain ⟨hn, hq⟩ := hq
        obtain ⟨hp, hq⟩ := hq
        refine n_cI hH (w_rS (As := [.ref (G.1 0), .ref (G.1 112), .ref (G.1 113)]) (rest := []) hX hK hE hH (c_L_areKeys hst hG   _ hp) q3_78 q3_79 q1_0 q3_80 hd_L_areKeys.2 ⟨Nat.le_of_ble_eq_true rfl, Nat.le_of_ble_eq_true rfl⟩ ⟨rfl, rfl⟩ rfl hl.1 rfl (Nat.le_of_ble_eq_true rfl) dL_law_113 (lw_fit hn (by decide))) (by decide) (fun r2 I3 H locs hpo hH => ?_)
        have hq := hq r2 I3 hpo
        refine lv_if_eq (tgt := 151) hx hb dL_law_116 (by decide) (fun hc => ?_) (fun hc => ?_)
        · have hq := hq.1 hc
          exact s_L_law_151 hst hG hS0 ha0 hL hbb C0  (n + 31) _ _ _ _ hq hH (lv_sub hl [] rfl)
        · have hq := hq.2 hc
          refine lv_aload_n hx hb dL_law_119 rfl (lv_at hl 1 rfl) ?_
          refine lv_aload_n hx hb dL_law_120 rfl (lv_at hl 2 rfl) ?_
          refine lv_aload_n hx hb dL_law_121 rfl (lv_at hl 3 rfl) ?_
          refine lv_aload hx hb dL_law_122 (lv_at hl 4 rfl) ?_
          refine lv_aload hx hb dL_law_124 (lv_at hl 5 rfl) ?_
          refine lv_iconst (v := 1) hx hb dL_law_126 (by decide) ?_
          obtain ⟨hn, hq⟩ := hq
          obtain ⟨hp, hq⟩ := hq
          refine n_cI hH (w_rS (As := [.ref (G.1 0), .ref (G.1 111), .ref (G.1 112), .ref (G.1 113), .ref (G.1 114), .int (1 : Int32)]) (rest := []) hX hK hE hH (c_L_isAhead hst hG  _ _ hp) q3_118 q3_119 q1_0 q3_120 hd_L_isAhead.2 ⟨Nat.le_of_ble_eq_true rfl, Nat.le_of_ble_eq_true rfl⟩ ⟨rfl, rfl⟩ rfl hl.1 rfl (Nat.le_of_ble_eq_true rfl) dL_law_127 (lw_fit hn (by decide))) (by decide) (fun r4 I5 H locs hpo hH => ?_)
          have hq := hq r4 I5 hpo
          refine lv_if_eq (tgt := 151) hx hb dL_law_130 (by decide) (fun hc => ?_) (fun hc => ?_)
          · have hq := hq.1 hc
            exact s_L_law_151 hst hG hS0 ha0 hL hbb C0  ((n + 31) + 1) _ _ _ _ hq hH (lv_sub hl [] rfl)
          · have hq := hq.2 hc
            refine lv_aload_n hx hb dL_law_133 rfl (lv_at hl 1 rfl) ?_
            obtain ⟨hn, hq⟩ := hq
            obtain ⟨hp, hq⟩ := hq
            refine n_cI hH (w_rSW (As := [.ref (G.1 0)]) (rest := []) hX hK hE hH (c_L_undo hst  _ hp) q1_204 q1_205 q1_0 q1_206 hd_L_undo ⟨Nat.le_of_ble_eq_true rfl, Nat.le_of_ble_eq_true rfl⟩ ⟨rfl, rfl⟩ rfl hl.1 rfl (Nat.le_of_ble_eq_true rfl) dL_law_134 (lw_fit hn (by decide))) (by decide) (fun r6 I7 H locs hpo hH => ?_)
            have hq := hq r6 I7 hpo
            refine lv_bipush (v := -33) hx hb dL_law_137 (by decide) ?_
            refine lv_icmp_ne (tgt := 151) hx hb dL_law_139 (by decide) (fun hc => ?_) (fun hc => ?_)
            · have hq := hq.1 hc
              exact s_L_law_151 hst hG hS0 ha0 hL hbb C0  (((n + 31) + 1) + 1) _ _ _ _ hq hH (lv_sub hl [] rfl)
            · have hq := hq.2 hc
              refine lv_aload_n hx hb dL_law_142 rfl (lv_at hl 1 rfl) ?_
              obtain ⟨hn, hq⟩ := hq
              obtain ⟨hp, hq⟩ := hq
              refine n_cI hH (w_rSW (As := [.ref (G.1 0)]) (rest := []) hX hK hE hH (c_L_goBack hst  _ hp) q2_52 q2_53 q1_0 q2_54 hd_L_goBack ⟨Nat.le_of_ble_eq_true rfl, Nat.le_of_ble_eq_true rfl⟩ ⟨rfl, rfl⟩ rfl hl.1 rfl (Nat.le_of_ble_eq_true rfl) dL_law_143 (lw_fit hn (by decide))) (by decide) (fun r8 I9 H locs hpo hH => ?_)
              have hq := hq r8 I9 hpo
              refine lv_bipush (v := -33) hx hb dL_law_146 (by decide) ?_
              refine lv_icmp_eq (tgt := 153) hx hb dL_law_148 (by decide) (fun hc => ?_) (fun hc => ?_)
              · have hq := hq.1 hc
                refine lv_iconst (v := 0) hx hb dL_law_153 (by decide) ?_
                refine lv_istore (lv' := [(6, .int (0 : Int32)), (0, .ref a0), (1, .ref (G.1 0)), (2, .ref (G.1 111)), (3, .ref (G.1 112)), (4, .ref (G.1 113)), (5, .ref (G.1 114))]) hx hb dL_law_154 hl (by decide) rfl (fun ls hl => ?_)
                obtain ⟨f, hq⟩ := hq
                exact s_L_law_156 hst hG hS0 ha0 hL hbb C0  f ((((n + 31) + 1) + 1) + 1) (0 : Int32) _ _ _ _ hq hH (lv_sub hl [1, 2, 3, 4, 5, 6, 0] rfl)
              · have hq := hq.2 hc
                exact s_L_law_151 hst hG hS0 ha0 hL hbb C0  ((((n + 31) + 1) + 1) + 1) _ _ _ _ hq hH (lv_sub hl [] rfl)
    · have hq := hq.2 hc
      refine lv_aload_n hx hb dL_law_42 rfl (lv_at hl 3 rfl) ?_
      refine lv_iload hx hb dL_law_43 (lv_at hl 6 rfl) ?_
      refine lv_iconst (v := 1) hx hb dL_law_45 (by decide) ?_
      refine lv_iload hx hb dL_law_46 (lv_at hl 6 rfl) ?_
      refine lv_ishl hx hb dL_law_48 ?_
      refine lv_iconst (v := 1) hx hb dL_law_49 (by decide) ?_
      refine lv_iload hx hb dL_law_50 (lv_at hl 6 rfl) ?_
      refine lv_iconst (v := 1) hx hb dL_law_52 (by decide) ?_
      refine lv_iadd hx hb dL_law_53 ?_
      refine lv_bipush (v := 6) hx hb dL_law_54 (by decide) ?_
      refine lv_irem hx hb dL_law_56 (by decide) ?_
      refine lv_ishl hx hb dL_law_57 ?_
      refine lv_ior hx hb dL_law_58 ?_
      refine lv_iconst (v := 1) hx hb dL_law_59 (by decide) ?_
      refine lv_iload hx hb dL_law_60 (lv_at hl 6 rfl) ?_
      refine lv_iconst (v := 3) hx hb dL_law_62 (by decide) ?_
      refine lv_iadd hx hb dL_law_63 ?_
      refine lv_bipush (v := 6) hx hb dL_law_64 (by decide) ?_
      refine lv_irem hx hb dL_law_66 (by decide) ?_
      refine lv_ishl hx hb dL_law_67 ?_
      refine lv_ior hx hb dL_law_68 ?_
      obtain ⟨hc, hq⟩ := hq
      refine w_iast5 hX hK hH (la112 hH.2.2.1) hc dL_law_69 (fun I10 H locs hI hH => ?_)
      have hq := hq I10 hI
      refine lv_aload_n hx hb dL_law_70 rfl (lv_at hl 3 rfl) ?_
      refine lv_iconst (v := 5) hx hb dL_law_71 (by decide) ?_
      refine lv_iload hx hb dL_law_72 (lv_at hl 6 rfl) ?_
      refine lv_iadd hx hb dL_law_74 ?_
      refine lv_iload hx hb dL_law_75 (lv_at hl 6 rfl) ?_
      refine lv_iconst (v := 4) hx hb dL_law_77 (by decide) ?_
      refine lv_icmp_ne (tgt := 85) hx hb dL_law_78 (by decide) (fun hc => ?_) (fun hc => ?_)
      · have hq := hq.1 hc
        refine lv_iconst (v := 1) hx hb dL_law_85 (by decide) ?_
        refine lv_iload hx hb dL_law_86 (lv_at hl 6 rfl) ?_
        refine lv_iadd hx hb dL_law_88 ?_
        exact s_L_law_89 hst hG hS0 ha0 hL hbb C0 hK36 n v6 ((1 : Int32) + v6) ((5 : Int32) + v6) _ _ _ _ hq hH (lv_sub hl [0, 1, 2, 3, 4, 5, 6] rfl)
      · have hq := hq.2 hc
        refine lv_iconst (v := 1) hx hb dL_law_81 (by decide) ?_
        refine lv_goto (tgt := 89) hx hb dL_law_82 (by decide) ?_
        exact s_L_law_89 hst hG hS0 ha0 hL hbb C0 hK36 n v6 (1 : Int32) ((5 : Int32) + v6) _ _ _ _ hq hH (lv_sub hl [0, 1, 2, 3, 4, 5, 6] rfl)
set_option maxRecDepth 100000 in
set_option maxHeartbeats 4000000 in
theorem s_L_law_29 {Q : Unit} (hst : l.stackTraces = false) (hG : G.2 = 115) (hS0 : va_X a0 L xs s s.heap) (ha0 : a0 < b) (hL : L ≤ 260) (hbb : b = s.heap.size) (C0 : wCx p m c s #[Value.ref a0] meth cL_law 9 RL ret D cs ad b) : ∀ (n : Nat) (I : wI) (H : Heap) (locs : List Loc) (ls : Array Slot), v_L_law_29 Q n I → wH D cs b G I s H locs → lv_has ls 9 [(0, .ref a0), (1, .ref (G.1 0)), (2, .ref (G.1 111)), (3, .ref (G.1 112)), (4, .ref (G.1 113)), (5, .ref (G.1 114))] → W p l e room_1 s m #[Value.ref a0] below meth c H locs n (12 * n) (lw_Z below #[Value.ref a0] s) (F0 m 29 ls []) := by
  obtain ⟨hX, hr, hlk, hK, hE⟩ := id C0
  have hx := hX.1
  have hb := hX.2.1
  have hown := hX.2.2.2.1
  have hts := hX.2.2.2.2
  intro n I H locs ls hq hH hl
  unfold v_L_law_29 at hq
  obtain ⟨hn, hq⟩ := hq
  refine lv_aload_n hx hb dL_law_29 rfl (lv_at hl 2 rfl) ?_
  obtain ⟨hp, hq⟩ := hq
  refine w_cV hH (w_rS (As := [.ref (G.1 111)]) (rest := []) hX hK hE hH (c_L_first (la111 hH.2.2.1)  _ hp) q3_75 q3_76 q1_0 q3_77 hd_L_first.2 ⟨Nat.le_of_ble_eq_true rfl, Nat.le_of_ble_eq_true rfl⟩ ⟨rfl, rfl⟩ rfl hl.1 rfl (Nat.le_of_ble_eq_true rfl) dL_law_30 (lw_fit0 hn)) (fun  I1 H locs hpo hH => ?_)
  have hq := hq  I1 hpo
  refine lv_iconst (v := 0) hx hb dL_law_33 (by decide) ?_
  refine lv_istore (lv' := [(6, .int (0 : Int32)), (0, .ref a0), (1, .ref (G.1 0)), (2, .ref (G.1 111)), (3, .ref (G.1 112)), (4, .ref (G.1 113)), (5, .ref (G.1 114))]) hx hb dL_law_34 hl (by decide) rfl (fun ls hl => ?_)
  obtain ⟨f, hq⟩ := hq
  exact s_L_law_36 hst hG hS0 ha0 hL hbb C0  f n (0 : Int32) _ _ _ _ hq hH (lv_sub hl [1, 2, 3, 4, 5, 6, 0] rfl)
end
