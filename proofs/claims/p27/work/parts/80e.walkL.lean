section
variable {p : Program} {l : Launch} {e : Env} {s : State} {m : MethodId} {args : Array Value} {below : List Frame} {meth : Method} {c : Code} {D : va_G} {cs : wC4} {ad : Nat → Nat} {b : Nat} {G B : wG}
abbrev rm_L_act : Room := { frames := 12, cells := 4, slots := 12 * 4, locals := 207 }
theorem hd_L_act : yL_act.cls = RL ∧ yL_act.cls ≠ "java/lang/invoke/MethodHandle" ∧ yL_act.cls ≠ "java/lang/invoke/VarHandle" ∧ (parseMethodDescriptor yL_act.desc).map (fun d => d.parameters.length) = some 7 := by decide +kernel
set_option maxRecDepth 100000 in
set_option maxHeartbeats 4000000 in
theorem s_L_act_623 {x1 : Int32} {x2 : Int32} {Q : Int32 → wI → Prop} (hst : l.stackTraces = false) (hB : ∀ I t, wPo D cs b G I t → wPo D cs b B I t) (C0 : wCx p m c s args meth cL_act 12 RL (some .boolean) D cs ad b) : ∀ (n : Nat) (t0 : Int32) (I : wI) (H : Heap) (locs : List Loc) (ls : Array Slot), v_L_act_623 x1 x2 Q n t0 I → wH D cs b G I s H locs → lv_has ls 12 [] → W p l e rm_L_act s m args below meth c H locs n (12 * n) (MQ below (va_Qi (Q) (wPo D cs b B) (fun q => b ≤ q)) args s 4 (12 * 4) (fun q => b ≤ q)) (F0 m 623 ls [.int t0]) := by
  obtain ⟨hX, hr, hlk, hK, hE⟩ := id C0
  have hx := hX.1
  have hb := hX.2.1
  have hown := hX.2.2.2.1
  have hts := hX.2.2.2.2
  intro n t0 I H locs ls hq hH hl
  unfold v_L_act_623 at hq
  obtain ⟨hn, hq⟩ := hq
  obtain ⟨hz, hq⟩ := hq
  refine W.widen (k := 4) (n := 12 * 4) hn (Nat.mul_le_mul_left 12 hn) ?_
  exact w_eZB hB hz hX hr hlk hH hq dL_act_623
set_option maxRecDepth 100000 in
set_option maxHeartbeats 4000000 in
theorem s_L_act_573 {x1 : Int32} {x2 : Int32} {Q : Int32 → wI → Prop} (hst : l.stackTraces = false) (hB : ∀ I t, wPo D cs b G I t → wPo D cs b B I t) (C0 : wCx p m c s args meth cL_act 12 RL (some .boolean) D cs ad b) : ∀ (f : Nat) (n : Nat) (v8 : Int32) (v9 : Int32) (I : wI) (H : Heap) (locs : List Loc) (ls : Array Slot), v_L_act_573 x1 x2 Q f n v8 v9 I → wH D cs b G I s H locs → lv_has ls 12 [(0, .ref (G.1 0)), (3, .ref (G.1 111)), (5, .ref (G.1 113)), (6, .ref (G.1 114)), (8, .int v8), (9, .int v9)] → W p l e rm_L_act s m args below meth c H locs n (12 * n) (MQ below (va_Qi (Q) (wPo D cs b B) (fun q => b ≤ q)) args s 4 (12 * 4) (fun q => b ≤ q)) (F0 m 573 ls []) := by
  obtain ⟨hX, hr, hlk, hK, hE⟩ := id C0
  have hx := hX.1
  have hb := hX.2.1
  have hown := hX.2.2.2.1
  have hts := hX.2.2.2.2
  intro f
  induction f with
  | zero =>
    intro n v8 v9 I H locs ls hq
    exact hq.elim
  | succ f hK573 =>
    intro n v8 v9 I H locs ls hq hH hl
    have hq : g_L_act_573 x1 x2 Q (v_L_act_573 x1 x2 Q f) n v8 v9 I := hq
    unfold g_L_act_573 at hq
    obtain ⟨hn, hq⟩ := hq
    refine lv_iload hx hb dL_act_573 (lv_at hl 5 rfl) ?_
    refine lv_bipush (v := 6) hx hb dL_act_575 (by decide) ?_
    refine lv_icmp_ge (tgt := 598) hx hb dL_act_577 (by decide) (fun hc => ?_) (fun hc => ?_)
    · have hq := hq.1 hc
      refine lv_aload_n hx hb dL_act_598 rfl (lv_at hl 1 rfl) ?_
      refine lv_aload hx hb dL_act_599 (lv_at hl 3 rfl) ?_
      obtain ⟨hp, hq⟩ := hq
      refine w_cV hH (w_rS (As := [.ref (G.1 111), .ref (G.1 114)]) (rest := []) hX hK hE hH (c_L_copy (la111 hH.2.2.1) (la114 hH.2.2.1)  _ hp) q3_121 q3_122 q1_0 q3_123 hd_L_copy.2 ⟨Nat.le_of_ble_eq_true rfl, Nat.le_of_ble_eq_true rfl⟩ ⟨rfl, rfl⟩ rfl hl.1 rfl (Nat.le_of_ble_eq_true rfl) dL_act_601 ⟨hn, Nat.mul_le_mul_left 12 hn⟩) (fun  I1 H locs hpo hH => ?_)
      have hq := hq  I1 hpo
      refine lv_aload hx hb dL_act_604 (lv_at hl 2 rfl) ?_
      refine lv_iconst (v := 2) hx hb dL_act_606 (by decide) ?_
      refine lv_iconst (v := 1) hx hb dL_act_607 (by decide) ?_
      obtain ⟨hc, hq⟩ := hq
      refine w_iast5 hX hK hH (la113 hH.2.2.1) hc dL_act_608 (fun I2 H locs hI hH => ?_)
      have hq := hq I2 hI
      refine lv_aload_n hx hb dL_act_609 rfl (lv_at hl 0 rfl) ?_
      obtain ⟨hp, hq⟩ := hq
      refine w_cI hH (w_rV (As := []) (rest := []) hX hK hE hH (c_X5_learn   _ hp) ck5 sh0 q3_190 q3_191 q3_192 q1_1 q3_193 hd_X5_learn ⟨Nat.le_of_ble_eq_true rfl, Nat.le_of_ble_eq_true rfl⟩ ⟨rfl, rfl⟩ rfl hl.1 rfl (Nat.le_of_ble_eq_true rfl) dL_act_610 ⟨hn, Nat.mul_le_mul_left 12 hn⟩) (fun r3 I4 H locs hpo hH => ?_)
      have hq := hq r3 I4 hpo
      refine lv_iload hx hb dL_act_613 (lv_at hl 4 rfl) ?_
      refine lv_icmp_ne (tgt := 622) hx hb dL_act_615 (by decide) (fun hc => ?_) (fun hc => ?_)
      · have hq := hq.1 hc
        refine lv_iconst (v := 0) hx hb dL_act_622 (by decide) ?_
        exact s_L_act_623 hst hB C0  n (0 : Int32) _ _ _ _ hq hH (lv_sub hl [] rfl)
      · have hq := hq.2 hc
        refine lv_iconst (v := 1) hx hb dL_act_618 (by decide) ?_
        refine lv_goto (tgt := 623) hx hb dL_act_619 (by decide) ?_
        exact s_L_act_623 hst hB C0  n (1 : Int32) _ _ _ _ hq hH (lv_sub hl [] rfl)
    · have hq := hq.2 hc
      refine lv_iload hx hb dL_act_580 (lv_at hl 4 rfl) ?_
      refine lv_aload_n hx hb dL_act_582 rfl (lv_at hl 1 rfl) ?_
      refine lv_bipush (v := 6) hx hb dL_act_583 (by decide) ?_
      refine lv_iload hx hb dL_act_585 (lv_at hl 5 rfl) ?_
      refine lv_iadd hx hb dL_act_587 ?_
      obtain ⟨hc, hq⟩ := hq
      refine w_iald5 hX hK hH (la111 hH.2.2.1) hc dL_act_588 ?_
      refine lv_iadd hx hb dL_act_589 ?_
      refine lv_istore (lv' := [(8, .int (v8 + (I 111 (((6 : Int32) + v9)).toNatClampNeg))), (0, .ref (G.1 0)), (3, .ref (G.1 111)), (5, .ref (G.1 113)), (6, .ref (G.1 114)), (9, .int v9)]) hx hb dL_act_590 hl (by decide) rfl (fun ls hl => ?_)
      refine lv_iinc (v := (v9 + (1 : Int32))) (lv' := [(9, .int (v9 + (1 : Int32))), (8, .int (v8 + (I 111 (((6 : Int32) + v9)).toNatClampNeg))), (0, .ref (G.1 0)), (3, .ref (G.1 111)), (5, .ref (G.1 113)), (6, .ref (G.1 114))]) hx hb dL_act_592 hl (k := 5) rfl rfl (by decide) rfl (fun ls hl => ?_)
      refine lv_goto (tgt := 573) hx hb dL_act_595 (by decide) ?_
      exact hK573 n (v8 + (I 111 (((6 : Int32) + v9)).toNatClampNeg)) (v9 + (1 : Int32)) _ _ _ _ hq hH (lv_sub hl [2, 3, 4, 5, 1, 0] rfl)
set_option maxRecDepth 100000 in
set_option maxHeartbeats 4000000 in
theorem s_L_act_567 {x1 : Int32} {x2 : Int32} {Q : Int32 → wI → Prop} (hst : l.stackTraces = false) (hB : ∀ I t, wPo D cs b G I t → wPo D cs b B I t) (C0 : wCx p m c s args meth cL_act 12 RL (some .boolean) D cs ad b) : ∀ (n : Nat) (I : wI) (H : Heap) (locs : List Loc) (ls : Array Slot), v_L_act_567 x1 x2 Q n I → wH D cs b G I s H locs → lv_has ls 12 [(0, .ref (G.1 0)), (3, .ref (G.1 111)), (5, .ref (G.1 113)), (6, .ref (G.1 114))] → W p l e rm_L_act s m args below meth c H locs n (12 * n) (MQ below (va_Qi (Q) (wPo D cs b B) (fun q => b ≤ q)) args s 4 (12 * 4) (fun q => b ≤ q)) (F0 m 567 ls []) := by
  obtain ⟨hX, hr, hlk, hK, hE⟩ := id C0
  have hx := hX.1
  have hb := hX.2.1
  have hown := hX.2.2.2.1
  have hts := hX.2.2.2.2
  intro n I H locs ls hq hH hl
  unfold v_L_act_567 at hq
  obtain ⟨hn, hq⟩ := hq
  refine lv_iconst (v := 0) hx hb dL_act_567 (by decide) ?_
  refine lv_istore (lv' := [(8, .int (0 : Int32)), (0, .ref (G.1 0)), (3, .ref (G.1 111)), (5, .ref (G.1 113)), (6, .ref (G.1 114))]) hx hb dL_act_568 hl (by decide) rfl (fun ls hl => ?_)
  refine lv_iconst (v := 0) hx hb dL_act_570 (by decide) ?_
  refine lv_istore (lv' := [(9, .int (0 : Int32)), (8, .int (0 : Int32)), (0, .ref (G.1 0)), (3, .ref (G.1 111)), (5, .ref (G.1 113)), (6, .ref (G.1 114))]) hx hb dL_act_571 hl (by decide) rfl (fun ls hl => ?_)
  obtain ⟨f, hq⟩ := hq
  exact s_L_act_573 hst hB C0  f n (0 : Int32) (0 : Int32) _ _ _ _ hq hH (lv_sub hl [2, 3, 4, 5, 1, 0] rfl)
set_option maxRecDepth 100000 in
set_option maxHeartbeats 4000000 in
theorem s_L_act_550 {x1 : Int32} {x2 : Int32} {Q : Int32 → wI → Prop} (hst : l.stackTraces = false) (hB : ∀ I t, wPo D cs b G I t → wPo D cs b B I t) (C0 : wCx p m c s args meth cL_act 12 RL (some .boolean) D cs ad b) : ∀ (n : Nat) (t0 : Int32) (I : wI) (H : Heap) (locs : List Loc) (ls : Array Slot), v_L_act_550 x1 x2 Q n t0 I → wH D cs b G I s H locs → lv_has ls 12 [] → W p l e rm_L_act s m args below meth c H locs n (12 * n) (MQ below (va_Qi (Q) (wPo D cs b B) (fun q => b ≤ q)) args s 4 (12 * 4) (fun q => b ≤ q)) (F0 m 550 ls [.int t0]) := by
  obtain ⟨hX, hr, hlk, hK, hE⟩ := id C0
  have hx := hX.1
  have hb := hX.2.1
  have hown := hX.2.2.2.1
  have hts := hX.2.2.2.2
  intro n t0 I H locs ls hq hH hl
  unfold v_L_act_550 at hq
  obtain ⟨hn, hq⟩ := hq
  obtain ⟨hz, hq⟩ := hq
  refine W.widen (k := 4) (n := 12 * 4) hn (Nat.mul_le_mul_left 12 hn) ?_
  exact w_eZB hB hz hX hr hlk hH hq dL_act_550
set_option maxRecDepth 100000 in
set_option maxHeartbeats 4000000 in
theorem s_L_act_549 {x1 : Int32} {x2 : Int32} {Q : Int32 → wI → Prop} (hst : l.stackTraces = false) (hB : ∀ I t, wPo D cs b G I t → wPo D cs b B I t) (C0 : wCx p m c s args meth cL_act 12 RL (some .boolean) D cs ad b) : ∀ (n : Nat) (I : wI) (H : Heap) (locs : List Loc) (ls : Array Slot), v_L_act_549 x1 x2 Q n I → wH D cs b G I s H locs → lv_has ls 12 [] → W p l e rm_L_act s m args below meth c H locs n (12 * n) (MQ below (va_Qi (Q) (wPo D cs b B) (fun q => b ≤ q)) args s 4 (12 * 4) (fun q => b ≤ q)) (F0 m 549 ls []) := by
  obtain ⟨hX, hr, hlk, hK, hE⟩ := id C0
  have hx := hX.1
  have hb := hX.2.1
  have hown := hX.2.2.2.1
  have hts := hX.2.2.2.2
  intro n I H locs ls hq hH hl
  unfold v_L_act_549 at hq
  obtain ⟨hn, hq⟩ := hq
  refine lv_iconst (v := 0) hx hb dL_act_549 (by decide) ?_
  exact s_L_act_550 hst hB C0  n (0 : Int32) _ _ _ _ hq hH (lv_sub hl [] rfl)
set_option maxRecDepth 100000 in
set_option maxHeartbeats 4000000 in
theorem s_L_act_510 {x1 : Int32} {x2 : Int32} {Q : Int32 → wI → Prop} {K484 : Nat → Int32 → Int32 → wI → Prop} (hst : l.stackTraces = false) (hB : ∀ I t, wPo D cs b G I t → wPo D cs b B I t) (C0 : wCx p m c s args meth cL_act 12 RL (some .boolean) D cs ad b) (hK484 : ∀ (n : Nat) (v8 : Int32) (v9 : Int32) (I : wI) (H : Heap) (locs : List Loc) (ls : Array Slot), K484 n v8 v9 I → wH D cs b G I s H locs → lv_has ls 12 [(0, .ref (G.1 0)), (2, .int x2), (4, .ref (G.1 112)), (5, .ref (G.1 113)), (8, .int v8), (9, .int v9)] → W p l e rm_L_act s m args below meth c H locs n (12 * n) (MQ below (va_Qi (Q) (wPo D cs b B) (fun q => b ≤ q)) args s 4 (12 * 4) (fun q => b ≤ q)) (F0 m 484 ls [])) : ∀ (n : Nat) (v9 : Int32) (t0 : Int32) (t1 : Int32) (I : wI) (H : Heap) (locs : List Loc) (ls : Array Slot), v_L_act_510 x1 x2 Q K484 n v9 t0 t1 I → wH D cs b G I s H locs → lv_has ls 12 [(0, .ref (G.1 0)), (2, .int x2), (4, .ref (G.1 112)), (5, .ref (G.1 113)), (9, .int v9)] → W p l e rm_L_act s m args below meth c H locs n (12 * n) (MQ below (va_Qi (Q) (wPo D cs b B) (fun q => b ≤ q)) args s 4 (12 * 4) (fun q => b ≤ q)) (F0 m 510 ls [.int t0, .int t1]) := by
  obtain ⟨hX, hr, hlk, hK, hE⟩ := id C0
  have hx := hX.1
  have hb := hX.2.1
  have hown := hX.2.2.2.1
  have hts := hX.2.2.2.2
  intro n v9 t0 t1 I H locs ls hq hH hl
  unfold v_L_act_510 at hq
  obtain ⟨hn, hq⟩ := hq
  refine lv_iadd hx hb dL_act_510 ?_
  refine lv_istore (lv' := [(8, .int (t1 + t0)), (0, .ref (G.1 0)), (2, .int x2), (4, .ref (G.1 112)), (5, .ref (G.1 113)), (9, .int v9)]) hx hb dL_act_511 hl (by decide) rfl (fun ls hl => ?_)
  refine lv_iinc (v := (v9 + (1 : Int32))) (lv' := [(9, .int (v9 + (1 : Int32))), (8, .int (t1 + t0)), (0, .ref (G.1 0)), (2, .int x2), (4, .ref (G.1 112)), (5, .ref (G.1 113))]) hx hb dL_act_513 hl (k := 5) rfl rfl (by decide) rfl (fun ls hl => ?_)
  refine lv_goto (tgt := 484) hx hb dL_act_516 (by decide) ?_
  exact hK484 n (t1 + t0) (v9 + (1 : Int32)) _ _ _ _ hq hH (lv_sub hl [2, 3, 4, 5, 1, 0] rfl)
set_option maxRecDepth 100000 in
set_option maxHeartbeats 4000000 in
theorem s_L_act_484 {x1 : Int32} {x2 : Int32} {Q : Int32 → wI → Prop} (hst : l.stackTraces = false) (hB : ∀ I t, wPo D cs b G I t → wPo D cs b B I t) (C0 : wCx p m c s args meth cL_act 12 RL (some .boolean) D cs ad b) : ∀ (f : Nat) (n : Nat) (v8 : Int32) (v9 : Int32) (I : wI) (H : Heap) (locs : List Loc) (ls : Array Slot), v_L_act_484 x1 x2 Q f n v8 v9 I → wH D cs b G I s H locs → lv_has ls 12 [(0, .ref (G.1 0)), (2, .int x2), (4, .ref (G.1 112)), (5, .ref (G.1 113)), (8, .int v8), (9, .int v9)] → W p l e rm_L_act s m args below meth c H locs n (12 * n) (MQ below (va_Qi (Q) (wPo D cs b B) (fun q => b ≤ q)) args s 4 (12 * 4) (fun q => b ≤ q)) (F0 m 484 ls []) := by
  obtain ⟨hX, hr, hlk, hK, hE⟩ := id C0
  have hx := hX.1
  have hb := hX.2.1
  have hown := hX.2.2.2.1
  have hts := hX.2.2.2.2
  intro f
  induction f with
  | zero =>
    intro n v8 v9 I H locs ls hq
    exact hq.elim
  | succ f hK484 =>
    intro n v8 v9 I H locs ls hq hH hl
    have hq : g_L_act_484 x1 x2 Q (v_L_act_484 x1 x2 Q f) n v8 v9 I := hq
    unfold g_L_act_484 at hq
    obtain ⟨hn, hq⟩ := hq
    refine lv_iload hx hb dL_act_484 (lv_at hl 5 rfl) ?_
    refine lv_iconst (v := 5) hx hb dL_act_486 (by decide) ?_
    refine lv_icmp_ge (tgt := 519) hx hb dL_act_487 (by decide) (fun hc => ?_) (fun hc => ?_)
    · have hq := hq.1 hc
      refine lv_aload_n hx hb dL_act_519 rfl (lv_at hl 0 rfl) ?_
      refine lv_iload_n hx hb dL_act_520 rfl (lv_at hl 1 rfl) ?_
      refine lv_bipush (v := 6) hx hb dL_act_521 (by decide) ?_
      obtain ⟨hp, hq⟩ := hq
      refine w_cIp hH (w_rS (As := [.int x2, .int (6 : Int32)]) (rest := [.ref (G.1 0)]) hX hK hE hH (c_L_low  _ _ _ hp) q3_127 q3_128 q1_0 q3_129 hd_L_low.2 ⟨Nat.le_of_ble_eq_true rfl, Nat.le_of_ble_eq_true rfl⟩ ⟨rfl, rfl⟩ rfl hl.1 rfl (Nat.le_of_ble_eq_true rfl) dL_act_523 ⟨hn, Nat.mul_le_mul_left 12 hn⟩) (fun r1  H locs hpo hH => ?_)
      have hq := hq r1  hpo
      obtain ⟨hn, hq⟩ := hq
      obtain ⟨hp, hq⟩ := hq
      refine n_cI hH (w_rSW (As := [.ref (G.1 0), .int r1]) (rest := []) hX hK hE hH (c_L_stick hst _ _ hp) q3_183 q3_184 q1_0 q3_185 hd_L_stick ⟨Nat.le_of_ble_eq_true rfl, Nat.le_of_ble_eq_true rfl⟩ ⟨rfl, rfl⟩ rfl hl.1 rfl (Nat.le_of_ble_eq_true rfl) dL_act_526 (n_fit hn (by decide))) (by decide) (fun r2 I3 H locs hpo hH => ?_)
      have hq := hq r2 I3 hpo
      refine lv_iload hx hb dL_act_529 (lv_at hl 4 rfl) ?_
      refine lv_icmp_ne (tgt := 549) hx hb dL_act_531 (by decide) (fun hc => ?_) (fun hc => ?_)
      · have hq := hq.1 hc
        exact s_L_act_549 hst hB C0  (n + 1) _ _ _ _ hq hH (lv_sub hl [] rfl)
      · have hq := hq.2 hc
        refine lv_aload_n hx hb dL_act_534 rfl (lv_at hl 0 rfl) ?_
        refine lv_bipush (v := 6) hx hb dL_act_535 (by decide) ?_
        obtain ⟨hn, hq⟩ := hq
        obtain ⟨hp, hq⟩ := hq
        refine n_cI hH (w_rSW (As := [.ref (G.1 0), .int (6 : Int32)]) (rest := []) hX hK hE hH (c_L_stick hst _ _ hp) q3_183 q3_184 q1_0 q3_185 hd_L_stick ⟨Nat.le_of_ble_eq_true rfl, Nat.le_of_ble_eq_true rfl⟩ ⟨rfl, rfl⟩ rfl hl.1 rfl (Nat.le_of_ble_eq_true rfl) dL_act_537 (n_fit hn (by decide))) (by decide) (fun r4 I5 H locs hpo hH => ?_)
        have hq := hq r4 I5 hpo
        refine lv_bipush (v := -31) hx hb dL_act_540 (by decide) ?_
        refine lv_icmp_ne (tgt := 549) hx hb dL_act_542 (by decide) (fun hc => ?_) (fun hc => ?_)
        · have hq := hq.1 hc
          exact s_L_act_549 hst hB C0  ((n + 1) + 1) _ _ _ _ hq hH (lv_sub hl [] rfl)
        · have hq := hq.2 hc
          refine lv_iconst (v := 1) hx hb dL_act_545 (by decide) ?_
          refine lv_goto (tgt := 550) hx hb dL_act_546 (by decide) ?_
          exact s_L_act_550 hst hB C0  ((n + 1) + 1) (1 : Int32) _ _ _ _ hq hH (lv_sub hl [] rfl)
    · have hq := hq.2 hc
      refine lv_iload hx hb dL_act_490 (lv_at hl 4 rfl) ?_
      refine lv_aload hx hb dL_act_492 (lv_at hl 2 rfl) ?_
      refine lv_iload hx hb dL_act_494 (lv_at hl 5 rfl) ?_
      obtain ⟨hc, hq⟩ := hq
      refine w_iald5 hX hK hH (la112 hH.2.2.1) hc dL_act_496 ?_
      refine lv_aload hx hb dL_act_497 (lv_at hl 3 rfl) ?_
      refine lv_iconst (v := 3) hx hb dL_act_499 (by decide) ?_
      obtain ⟨hc, hq⟩ := hq
      refine w_iald5 hX hK hH (la113 hH.2.2.1) hc dL_act_500 ?_
      refine lv_iand hx hb dL_act_501 ?_
      refine lv_if_eq (tgt := 509) hx hb dL_act_502 (by decide) (fun hc => ?_) (fun hc => ?_)
      · have hq := hq.1 hc
        refine lv_iconst (v := 0) hx hb dL_act_509 (by decide) ?_
        exact s_L_act_510 hst hB C0 hK484 n v9 (0 : Int32) v8 _ _ _ _ hq hH (lv_sub hl [0, 1, 2, 3, 5] rfl)
      · have hq := hq.2 hc
        refine lv_iconst (v := 1) hx hb dL_act_505 (by decide) ?_
        refine lv_goto (tgt := 510) hx hb dL_act_506 (by decide) ?_
        exact s_L_act_510 hst hB C0 hK484 n v9 (1 : Int32) v8 _ _ _ _ hq hH (lv_sub hl [0, 1, 2, 3, 5] rfl)
set_option maxRecDepth 100000 in
set_option maxHeartbeats 4000000 in
theorem s_L_act_455 {x1 : Int32} {x2 : Int32} {Q : Int32 → wI → Prop} (hst : l.stackTraces = false) (hB : ∀ I t, wPo D cs b G I t → wPo D cs b B I t) (C0 : wCx p m c s args meth cL_act 12 RL (some .boolean) D cs ad b) : ∀ (n : Nat) (t0 : Int32) (I : wI) (H : Heap) (locs : List Loc) (ls : Array Slot), v_L_act_455 x1 x2 Q n t0 I → wH D cs b G I s H locs → lv_has ls 12 [] → W p l e rm_L_act s m args below meth c H locs n (12 * n) (MQ below (va_Qi (Q) (wPo D cs b B) (fun q => b ≤ q)) args s 4 (12 * 4) (fun q => b ≤ q)) (F0 m 455 ls [.int t0]) := by
  obtain ⟨hX, hr, hlk, hK, hE⟩ := id C0
  have hx := hX.1
  have hb := hX.2.1
  have hown := hX.2.2.2.1
  have hts := hX.2.2.2.2
  intro n t0 I H locs ls hq hH hl
  unfold v_L_act_455 at hq
  obtain ⟨hn, hq⟩ := hq
  obtain ⟨hz, hq⟩ := hq
  refine W.widen (k := 4) (n := 12 * 4) hn (Nat.mul_le_mul_left 12 hn) ?_
  exact w_eZB hB hz hX hr hlk hH hq dL_act_455
set_option maxRecDepth 100000 in
set_option maxHeartbeats 4000000 in
theorem s_L_act_411 {x1 : Int32} {x2 : Int32} {Q : Int32 → wI → Prop} (hst : l.stackTraces = false) (hB : ∀ I t, wPo D cs b G I t → wPo D cs b B I t) (C0 : wCx p m c s args meth cL_act 12 RL (some .boolean) D cs ad b) : ∀ (n : Nat) (t0 : Int32) (I : wI) (H : Heap) (locs : List Loc) (ls : Array Slot), v_L_act_411 x1 x2 Q n t0 I → wH D cs b G I s H locs → lv_has ls 12 [] → W p l e rm_L_act s m args below meth c H locs n (12 * n) (MQ below (va_Qi (Q) (wPo D cs b B) (fun q => b ≤ q)) args s 4 (12 * 4) (fun q => b ≤ q)) (F0 m 411 ls [.int t0]) := by
  obtain ⟨hX, hr, hlk, hK, hE⟩ := id C0
  have hx := hX.1
  have hb := hX.2.1
  have hown := hX.2.2.2.1
  have hts := hX.2.2.2.2
  intro n t0 I H locs ls hq hH hl
  unfold v_L_act_411 at hq
  obtain ⟨hn, hq⟩ := hq
  obtain ⟨hz, hq⟩ := hq
  refine W.widen (k := 4) (n := 12 * 4) hn (Nat.mul_le_mul_left 12 hn) ?_
  exact w_eZB hB hz hX hr hlk hH hq dL_act_411
set_option maxRecDepth 100000 in
set_option maxHeartbeats 4000000 in
theorem s_L_act_410 {x1 : Int32} {x2 : Int32} {Q : Int32 → wI → Prop} (hst : l.stackTraces = false) (hB : ∀ I t, wPo D cs b G I t → wPo D cs b B I t) (C0 : wCx p m c s args meth cL_act 12 RL (some .boolean) D cs ad b) : ∀ (n : Nat) (I : wI) (H : Heap) (locs : List Loc) (ls : Array Slot), v_L_act_410 x1 x2 Q n I → wH D cs b G I s H locs → lv_has ls 12 [] → W p l e rm_L_act s m args below meth c H locs n (12 * n) (MQ below (va_Qi (Q) (wPo D cs b B) (fun q => b ≤ q)) args s 4 (12 * 4) (fun q => b ≤ q)) (F0 m 410 ls []) := by
  obtain ⟨hX, hr, hlk, hK, hE⟩ := id C0
  have hx := hX.1
  have hb := hX.2.1
  have hown := hX.2.2.2.1
  have hts := hX.2.2.2.2
  intro n I H locs ls hq hH hl
  unfold v_L_act_410 at hq
  obtain ⟨hn, hq⟩ := hq
  refine lv_iconst (v := 0) hx hb dL_act_410 (by decide) ?_
  exact s_L_act_411 hst hB C0  n (0 : Int32) _ _ _ _ hq hH (lv_sub hl [] rfl)
set_option maxRecDepth 100000 in
set_option maxHeartbeats 4000000 in
theorem s_L_act_308 {x1 : Int32} {x2 : Int32} {Q : Int32 → wI → Prop} (hst : l.stackTraces = false) (hB : ∀ I t, wPo D cs b G I t → wPo D cs b B I t) (C0 : wCx p m c s args meth cL_act 12 RL (some .boolean) D cs ad b) : ∀ (n : Nat) (t0 : Int32) (I : wI) (H : Heap) (locs : List Loc) (ls : Array Slot), v_L_act_308 x1 x2 Q n t0 I → wH D cs b G I s H locs → lv_has ls 12 [] → W p l e rm_L_act s m args below meth c H locs n (12 * n) (MQ below (va_Qi (Q) (wPo D cs b B) (fun q => b ≤ q)) args s 4 (12 * 4) (fun q => b ≤ q)) (F0 m 308 ls [.int t0]) := by
  obtain ⟨hX, hr, hlk, hK, hE⟩ := id C0
  have hx := hX.1
  have hb := hX.2.1
  have hown := hX.2.2.2.1
  have hts := hX.2.2.2.2
  intro n t0 I H locs ls hq hH hl
  unfold v_L_act_308 at hq
  obtain ⟨hn, hq⟩ := hq
  obtain ⟨hz, hq⟩ := hq
  refine W.widen (k := 4) (n := 12 * 4) hn (Nat.mul_le_mul_left 12 hn) ?_
  exact w_eZB hB hz hX hr hlk hH hq dL_act_308
set_option maxRecDepth 100000 in
set_option maxHeartbeats 4000000 in
theorem s_L_act_289 {x1 : Int32} {x2 : Int32} {Q : Int32 → wI → Prop} (hst : l.stackTraces = false) (hB : ∀ I t, wPo D cs b G I t → wPo D cs b B I t) (C0 : wCx p m c s args meth cL_act 12 RL (some .boolean) D cs ad b) : ∀ (n : Nat) (t0 : Int32) (I : wI) (H : Heap) (locs : List Loc) (ls : Array Slot), v_L_act_289 x1 x2 Q n t0 I → wH D cs b G I s H locs → lv_has ls 12 [] → W p l e rm_L_act s m args below meth c H locs n (12 * n) (MQ below (va_Qi (Q) (wPo D cs b B) (fun q => b ≤ q)) args s 4 (12 * 4) (fun q => b ≤ q)) (F0 m 289 ls [.int t0]) := by
  obtain ⟨hX, hr, hlk, hK, hE⟩ := id C0
  have hx := hX.1
  have hb := hX.2.1
  have hown := hX.2.2.2.1
  have hts := hX.2.2.2.2
  intro n t0 I H locs ls hq hH hl
  unfold v_L_act_289 at hq
  obtain ⟨hn, hq⟩ := hq
  obtain ⟨hz, hq⟩ := hq
  refine W.widen (k := 4) (n := 12 * 4) hn (Nat.mul_le_mul_left 12 hn) ?_
  exact w_eZB hB hz hX hr hlk hH hq dL_act_289
set_option maxRecDepth 100000 in
set_option maxHeartbeats 4000000 in
theorem s_L_act_256 {x1 : Int32} {x2 : Int32} {Q : Int32 → wI → Prop} {K223 : Nat → Int32 → Int32 → wI → Prop} (hst : l.stackTraces = false) (hB : ∀ I t, wPo D cs b G I t → wPo D cs b B I t) (C0 : wCx p m c s args meth cL_act 12 RL (some .boolean) D cs ad b) (hK223 : ∀ (n : Nat) (v8 : Int32) (v9 : Int32) (I : wI) (H : Heap) (locs : List Loc) (ls : Array Slot), K223 n v8 v9 I → wH D cs b G I s H locs → lv_has ls 12 [(0, .ref (G.1 0)), (2, .int x2), (3, .ref (G.1 111)), (8, .int v8), (9, .int v9)] → W p l e rm_L_act s m args below meth c H locs n (12 * n) (MQ below (va_Qi (Q) (wPo D cs b B) (fun q => b ≤ q)) args s 4 (12 * 4) (fun q => b ≤ q)) (F0 m 223 ls [])) : ∀ (n : Nat) (v9 : Int32) (t0 : Int32) (t1 : Int32) (I : wI) (H : Heap) (locs : List Loc) (ls : Array Slot), v_L_act_256 x1 x2 Q K223 n v9 t0 t1 I → wH D cs b G I s H locs → lv_has ls 12 [(0, .ref (G.1 0)), (2, .int x2), (3, .ref (G.1 111)), (9, .int v9)] → W p l e rm_L_act s m args below meth c H locs n (12 * n) (MQ below (va_Qi (Q) (wPo D cs b B) (fun q => b ≤ q)) args s 4 (12 * 4) (fun q => b ≤ q)) (F0 m 256 ls [.int t0, .int t1]) := by
  obtain ⟨hX, hr, hlk, hK, hE⟩ := id C0
  have hx := hX.1
  have hb := hX.2.1
  have hown := hX.2.2.2.1
  have hts := hX.2.2.2.2
  intro n v9 t0 t1 I H locs ls hq hH hl
  unfold v_L_act_256 at hq
  obtain ⟨hn, hq⟩ := hq
  refine lv_iadd hx hb dL_act_256 ?_
  refine lv_istore (lv' := [(8, .int (t1 + t0)), (0, .ref (G.1 0)), (2, .int x2), (3, .ref (G.1 111)), (9, .int v9)]) hx hb dL_act_257 hl (by decide) rfl (fun ls hl => ?_)
  refine lv_iinc (v := (v9 + (1 : Int32))) (lv' := [(9, .int (v9 + (1 : Int32))), (8, .int (t1 + t0)), (0, .ref (G.1 0)), (2, .int x2), (3, .ref (G.1 111))]) hx hb dL_act_259 hl (k := 4) rfl rfl (by decide) rfl (fun ls hl => ?_)
  refine lv_goto (tgt := 223) hx hb dL_act_262 (by decide) ?_
  exact hK223 n (t1 + t0) (v9 + (1 : Int32)) _ _ _ _ hq hH (lv_sub hl [2, 3, 4, 1, 0] rfl)
set_option maxRecDepth 100000 in
set_option maxHeartbeats 4000000 in
theorem s_L_act_251 {x1 : Int32} {x2 : Int32} {Q : Int32 → wI → Prop} {K223 : Nat → Int32 → Int32 → wI → Prop} (hst : l.stackTraces = false) (hB : ∀ I t, wPo D cs b G I t → wPo D cs b B I t) (C0 : wCx p m c s args meth cL_act 12 RL (some .boolean) D cs ad b) (hK223 : ∀ (n : Nat) (v8 : Int32) (v9 : Int32) (I : wI) (H : Heap) (locs : List Loc) (ls : Array Slot), K223 n v8 v9 I → wH D cs b G I s H locs → lv_has ls 12 [(0, .ref (G.1 0)), (2, .int x2), (3, .ref (G.1 111)), (8, .int v8), (9, .int v9)] → W p l e rm_L_act s m args below meth c H locs n (12 * n) (MQ below (va_Qi (Q) (wPo D cs b B) (fun q => b ≤ q)) args s 4 (12 * 4) (fun q => b ≤ q)) (F0 m 223 ls [])) : ∀ (n : Nat) (v9 : Int32) (t0 : Int32) (I : wI) (H : Heap) (locs : List Loc) (ls : Array Slot), v_L_act_251 x1 x2 Q K223 n v9 t0 I → wH D cs b G I s H locs → lv_has ls 12 [(0, .ref (G.1 0)), (2, .int x2), (3, .ref (G.1 111)), (9, .int v9)] → W p l e rm_L_act s m args below meth c H locs n (12 * n) (MQ below (va_Qi (Q) (wPo D cs b B) (fun q => b ≤ q)) args s 4 (12 * 4) (fun q => b ≤ q)) (F0 m 251 ls [.int t0]) := by
  obtain ⟨hX, hr, hlk, hK, hE⟩ := id C0
  have hx := hX.1
  have hb := hX.2.1
  have hown := hX.2.2.2.1
  have hts := hX.2.2.2.2
  intro n v9 t0 I H locs ls hq hH hl
  unfold v_L_act_251 at hq
  obtain ⟨hn, hq⟩ := hq
  refine lv_iconst (v := 1) hx hb dL_act_251 (by decide) ?_
  refine lv_goto (tgt := 256) hx hb dL_act_252 (by decide) ?_
  exact s_L_act_256 hst hB C0 hK223 n v9 (1 : Int32) t0 _ _ _ _ hq hH (lv_sub hl [0, 1, 2, 3] rfl)
set_option maxRecDepth 100000 in
set_option maxHeartbeats 4000000 in
theorem s_L_act_223 {x1 : Int32} {x2 : Int32} {Q : Int32 → wI → Prop} (hst : l.stackTraces = false) (hB : ∀ I t, wPo D cs b G I t → wPo D cs b B I t) (C0 : wCx p m c s args meth cL_act 12 RL (some .boolean) D cs ad b) : ∀ (f : Nat) (n : Nat) (v8 : Int32) (v9 : Int32) (I : wI) (H : Heap) (locs : List Loc) (ls : Array Slot), v_L_act_223 x1 x2 Q f n v8 v9 I → wH D cs b G I s H locs → lv_has ls 12 [(0, .ref (G.1 0)), (2, .int x2), (3, .ref (G.1 111)), (8, .int v8), (9, .int v9)] → W p l e rm_L_act s m args below meth c H locs n (12 * n) (MQ below (va_Qi (Q) (wPo D cs b B) (fun q => b ≤ q)) args s 4 (12 * 4) (fun q => b ≤ q)) (F0 m 223 ls []) := by
  obtain ⟨hX, hr, hlk, hK, hE⟩ := id C0
  have hx := hX.1
  have hb := hX.2.1
  have hown := hX.2.2.2.1
  have hts := hX.2.2.2.2
  intro f
  induction f with
  | zero =>
    intro n v8 v9 I H locs ls hq
    exact hq.elim
  | succ f hK223 =>
    intro n v8 v9 I H locs ls hq hH hl
    have hq : g_L_act_223 x1 x2 Q (v_L_act_223 x1 x2 Q f) n v8 v9 I := hq
    unfold g_L_act_223 at hq
    obtain ⟨hn, hq⟩ := hq
    refine lv_iload hx hb dL_act_223 (lv_at hl 4 rfl) ?_
    refine lv_bipush (v := 6) hx hb dL_act_225 (by decide) ?_
    refine lv_icmp_ge (tgt := 265) hx hb dL_act_227 (by decide) (fun hc => ?_) (fun hc => ?_)
    · have hq := hq.1 hc
      refine lv_iload_n hx hb dL_act_265 rfl (lv_at hl 1 rfl) ?_
      refine lv_iconst (v := 3) hx hb dL_act_266 (by decide) ?_
      refine lv_iand hx hb dL_act_267 ?_
      refine lv_if_le (tgt := 290) hx hb dL_act_268 (by decide) (fun hc => ?_) (fun hc => ?_)
      · have hq := hq.1 hc
        refine lv_aload_n hx hb dL_act_290 rfl (lv_at hl 2 rfl) ?_
        obtain ⟨hp, hq⟩ := hq
        refine w_cV hH (w_rS (As := [.ref (G.1 111)]) (rest := []) hX hK hE hH (c_L_first (la111 hH.2.2.1)  _ hp) q3_75 q3_76 q1_0 q3_77 hd_L_first.2 ⟨Nat.le_of_ble_eq_true rfl, Nat.le_of_ble_eq_true rfl⟩ ⟨rfl, rfl⟩ rfl hl.1 rfl (Nat.le_of_ble_eq_true rfl) dL_act_291 ⟨hn, Nat.mul_le_mul_left 12 hn⟩) (fun  I1 H locs hpo hH => ?_)
        have hq := hq  I1 hpo
        refine lv_aload_n hx hb dL_act_294 rfl (lv_at hl 0 rfl) ?_
        obtain ⟨hp, hq⟩ := hq
        refine w_cI hH (w_rV (As := []) (rest := []) hX hK hE hH (c_X5_home   _ hp) ck5 sh0 q3_164 q3_165 q3_166 q1_1 q3_167 hd_X5_home ⟨Nat.le_of_ble_eq_true rfl, Nat.le_of_ble_eq_true rfl⟩ ⟨rfl, rfl⟩ rfl hl.1 rfl (Nat.le_of_ble_eq_true rfl) dL_act_295 ⟨hn, Nat.mul_le_mul_left 12 hn⟩) (fun r2 I3 H locs hpo hH => ?_)
        have hq := hq r2 I3 hpo
        refine lv_iload hx hb dL_act_298 (lv_at hl 3 rfl) ?_
        refine lv_icmp_ne (tgt := 307) hx hb dL_act_300 (by decide) (fun hc => ?_) (fun hc => ?_)
        · have hq := hq.1 hc
          refine lv_iconst (v := 0) hx hb dL_act_307 (by decide) ?_
          exact s_L_act_308 hst hB C0  n (0 : Int32) _ _ _ _ hq hH (lv_sub hl [] rfl)
        · have hq := hq.2 hc
          refine lv_iconst (v := 1) hx hb dL_act_303 (by decide) ?_
          refine lv_goto (tgt := 308) hx hb dL_act_304 (by decide) ?_
          exact s_L_act_308 hst hB C0  n (1 : Int32) _ _ _ _ hq hH (lv_sub hl [] rfl)
      · have hq := hq.2 hc
        refine lv_iload hx hb dL_act_271 (lv_at hl 3 rfl) ?_
        refine lv_bipush (v := 6) hx hb dL_act_273 (by decide) ?_
        refine lv_aload_n hx hb dL_act_275 rfl (lv_at hl 0 rfl) ?_
        refine lv_iconst (v := 3) hx hb dL_act_276 (by decide) ?_
        obtain ⟨hp, hq⟩ := hq
        refine w_cIp hH (w_rV (As := [.int (3 : Int32)]) (rest := [.int (6 : Int32), .int v8]) hX hK hE hH (c_X5_count  _ _ hp) ck5 sh0 q2_236 q2_237 q2_238 q1_1 q2_239 hd_X5_count ⟨Nat.le_of_ble_eq_true rfl, Nat.le_of_ble_eq_true rfl⟩ ⟨rfl, rfl⟩ rfl hl.1 rfl (Nat.le_of_ble_eq_true rfl) dL_act_277 ⟨hn, Nat.mul_le_mul_left 12 hn⟩) (fun r4  H locs hpo hH => ?_)
        have hq := hq r4  hpo
        refine lv_isub hx hb dL_act_280 ?_
        refine lv_icmp_ne (tgt := 288) hx hb dL_act_281 (by decide) (fun hc => ?_) (fun hc => ?_)
        · have hq := hq.1 hc
          refine lv_iconst (v := 0) hx hb dL_act_288 (by decide) ?_
          exact s_L_act_289 hst hB C0  n (0 : Int32) _ _ _ _ hq hH (lv_sub hl [] rfl)
        · have hq := hq.2 hc
          refine lv_iconst (v := 1) hx hb dL_act_284 (by decide) ?_
          refine lv_goto (tgt := 289) hx hb dL_act_285 (by decide) ?_
          exact s_L_act_289 hst hB C0  n (1 : Int32) _ _ _ _ hq hH (lv_sub hl [] rfl)
    · have hq := hq.2 hc
      refine lv_iload hx hb dL_act_230 (lv_at hl 3 rfl) ?_
      refine lv_aload_n hx hb dL_act_232 rfl (lv_at hl 2 rfl) ?_
      refine lv_iload hx hb dL_act_233 (lv_at hl 4 rfl) ?_
      obtain ⟨hc, hq⟩ := hq
      refine w_iald5 hX hK hH (la111 hH.2.2.1) hc dL_act_235 ?_
      refine lv_iload hx hb dL_act_236 (lv_at hl 4 rfl) ?_
      refine lv_icmp_ne (tgt := 251) hx hb dL_act_238 (by decide) (fun hc => ?_) (fun hc => ?_)
      · have hq := hq.1 hc
        exact s_L_act_251 hst hB C0 hK223 n v9 v8 _ _ _ _ hq hH (lv_sub hl [0, 1, 2, 4] rfl)
      · have hq := hq.2 hc
        refine lv_aload_n hx hb dL_act_241 rfl (lv_at hl 2 rfl) ?_
        refine lv_bipush (v := 6) hx hb dL_act_242 (by decide) ?_
        refine lv_iload hx hb dL_act_244 (lv_at hl 4 rfl) ?_
        refine lv_iadd hx hb dL_act_246 ?_
        obtain ⟨hc, hq⟩ := hq
        refine w_iald5 hX hK hH (la111 hH.2.2.1) hc dL_act_247 ?_
        refine lv_if_eq (tgt := 255) hx hb dL_act_248 (by decide) (fun hc => ?_) (fun hc => ?_)
        · have hq := hq.1 hc
          refine lv_iconst (v := 0) hx hb dL_act_255 (by decide) ?_
          exact s_L_act_256 hst hB C0 hK223 n v9 (0 : Int32) v8 _ _ _ _ hq hH (lv_sub hl [0, 1, 2, 4] rfl)
        · have hq := hq.2 hc
          exact s_L_act_251 hst hB C0 hK223 n v9 v8 _ _ _ _ hq hH (lv_sub hl [0, 1, 2, 4] rfl)
set_option maxRecDepth 100000 in
set_option maxHeartbeats 4000000 in
theorem s_L_act_209 {x1 : Int32} {x2 : Int32} {Q : Int32 → wI → Prop} (hst : l.stackTraces = false) (hB : ∀ I t, wPo D cs b G I t → wPo D cs b B I t) (C0 : wCx p m c s args meth cL_act 12 RL (some .boolean) D cs ad b) : ∀ (n : Nat) (t0 : Int32) (I : wI) (H : Heap) (locs : List Loc) (ls : Array Slot), v_L_act_209 x1 x2 Q n t0 I → wH D cs b G I s H locs → lv_has ls 12 [] → W p l e rm_L_act s m args below meth c H locs n (12 * n) (MQ below (va_Qi (Q) (wPo D cs b B) (fun q => b ≤ q)) args s 4 (12 * 4) (fun q => b ≤ q)) (F0 m 209 ls [.int t0]) := by
  obtain ⟨hX, hr, hlk, hK, hE⟩ := id C0
  have hx := hX.1
  have hb := hX.2.1
  have hown := hX.2.2.2.1
  have hts := hX.2.2.2.2
  intro n t0 I H locs ls hq hH hl
  unfold v_L_act_209 at hq
  obtain ⟨hn, hq⟩ := hq
  obtain ⟨hz, hq⟩ := hq
  refine W.widen (k := 4) (n := 12 * 4) hn (Nat.mul_le_mul_left 12 hn) ?_
  exact w_eZB hB hz hX hr hlk hH hq dL_act_209
set_option maxRecDepth 100000 in
set_option maxHeartbeats 4000000 in
theorem s_L_act_199 {x1 : Int32} {x2 : Int32} {Q : Int32 → wI → Prop} (hst : l.stackTraces = false) (hB : ∀ I t, wPo D cs b G I t → wPo D cs b B I t) (C0 : wCx p m c s args meth cL_act 12 RL (some .boolean) D cs ad b) : ∀ (n : Nat) (v10 : Int32) (t0 : Int32) (I : wI) (H : Heap) (locs : List Loc) (ls : Array Slot), v_L_act_199 x1 x2 Q n v10 t0 I → wH D cs b G I s H locs → lv_has ls 12 [(10, .int v10)] → W p l e rm_L_act s m args below meth c H locs n (12 * n) (MQ below (va_Qi (Q) (wPo D cs b B) (fun q => b ≤ q)) args s 4 (12 * 4) (fun q => b ≤ q)) (F0 m 199 ls [.int t0]) := by
  obtain ⟨hX, hr, hlk, hK, hE⟩ := id C0
  have hx := hX.1
  have hb := hX.2.1
  have hown := hX.2.2.2.1
  have hts := hX.2.2.2.2
  intro n v10 t0 I H locs ls hq hH hl
  unfold v_L_act_199 at hq
  obtain ⟨hn, hq⟩ := hq
  refine lv_iload hx hb dL_act_199 (lv_at hl 0 rfl) ?_
  refine lv_icmp_ne (tgt := 208) hx hb dL_act_201 (by decide) (fun hc => ?_) (fun hc => ?_)
  · have hq := hq.1 hc
    refine lv_iconst (v := 0) hx hb dL_act_208 (by decide) ?_
    exact s_L_act_209 hst hB C0  n (0 : Int32) _ _ _ _ hq hH (lv_sub hl [] rfl)
  · have hq := hq.2 hc
    refine lv_iconst (v := 1) hx hb dL_act_204 (by decide) ?_
    refine lv_goto (tgt := 209) hx hb dL_act_205 (by decide) ?_
    exact s_L_act_209 hst hB C0  n (1 : Int32) _ _ _ _ hq hH (lv_sub hl [] rfl)
set_option maxRecDepth 100000 in
set_option maxHeartbeats 4000000 in
theorem s_L_act_174 {x1 : Int32} {x2 : Int32} {Q : Int32 → wI → Prop} (hst : l.stackTraces = false) (hB : ∀ I t, wPo D cs b G I t → wPo D cs b B I t) (C0 : wCx p m c s args meth cL_act 12 RL (some .boolean) D cs ad b) : ∀ (n : Nat) (v8 : Int32) (v10 : Int32) (t0 : Int32) (t1 : Int32) (t2 : Int32) (I : wI) (H : Heap) (locs : List Loc) (ls : Array Slot), v_L_act_174 x1 x2 Q n v8 v10 t0 t1 t2 I → wH D cs b G I s H locs → lv_has ls 12 [(0, .ref (G.1 0)), (8, .int v8), (10, .int v10)] → W p l e rm_L_act s m args below meth c H locs n (12 * n) (MQ below (va_Qi (Q) (wPo D cs b B) (fun q => b ≤ q)) args s 4 (12 * 4) (fun q => b ≤ q)) (F0 m 174 ls [.int t0, .int t1, .int t2, .ref (G.1 113)]) := by
  obtain ⟨hX, hr, hlk, hK, hE⟩ := id C0
  have hx := hX.1
  have hb := hX.2.1
  have hown := hX.2.2.2.1
  have hts := hX.2.2.2.2
  intro n v8 v10 t0 t1 t2 I H locs ls hq hH hl
  unfold v_L_act_174 at hq
  obtain ⟨hn, hq⟩ := hq
  refine lv_iadd hx hb dL_act_174 ?_
  obtain ⟨hc, hq⟩ := hq
  refine w_iast5 hX hK hH (la113 hH.2.2.1) hc dL_act_175 (fun I1 H locs hI hH => ?_)
  have hq := hq I1 hI
  refine lv_iload hx hb dL_act_176 (lv_at hl 1 rfl) ?_
  refine lv_iconst (v := 5) hx hb dL_act_178 (by decide) ?_
  refine lv_icmp_ge (tgt := 191) hx hb dL_act_179 (by decide) (fun hc => ?_) (fun hc => ?_)
  · have hq := hq.1 hc
    refine lv_aload_n hx hb dL_act_191 rfl (lv_at hl 0 rfl) ?_
    refine lv_iload hx hb dL_act_192 (lv_at hl 1 rfl) ?_
    refine lv_iconst (v := 5) hx hb dL_act_194 (by decide) ?_
    refine lv_isub hx hb dL_act_195 ?_
    obtain ⟨hn, hq⟩ := hq
    obtain ⟨hp, hq⟩ := hq
    refine n_cI hH (w_rSW (As := [.ref (G.1 0), .int (v8 - (5 : Int32))]) (rest := []) hX hK hE hH (c_L_back hst _ _ hp) q3_157 q3_158 q1_0 q3_159 hd_L_back ⟨Nat.le_of_ble_eq_true rfl, Nat.le_of_ble_eq_true rfl⟩ ⟨rfl, rfl⟩ rfl hl.1 rfl (Nat.le_of_ble_eq_true rfl) dL_act_196 (n_fit hn (by decide))) (by decide) (fun r2 I3 H locs hpo hH => ?_)
    have hq := hq r2 I3 hpo
    exact s_L_act_199 hst hB C0  (n + 1) v10 r2 _ _ _ _ hq hH (lv_sub hl [2] rfl)
  · have hq := hq.2 hc
    refine lv_aload_n hx hb dL_act_182 rfl (lv_at hl 0 rfl) ?_
    refine lv_iload hx hb dL_act_183 (lv_at hl 1 rfl) ?_
    obtain ⟨hn, hq⟩ := hq
    obtain ⟨hp, hq⟩ := hq
    refine n_cI hH (w_rSW (As := [.ref (G.1 0), .int v8]) (rest := []) hX hK hE hH (c_L_turn hst _ _ hp) q3_131 q3_132 q1_0 q3_133 hd_L_turn ⟨Nat.le_of_ble_eq_true rfl, Nat.le_of_ble_eq_true rfl⟩ ⟨rfl, rfl⟩ rfl hl.1 rfl (Nat.le_of_ble_eq_true rfl) dL_act_185 (n_fit hn (by decide))) (by decide) (fun r4 I5 H locs hpo hH => ?_)
    have hq := hq r4 I5 hpo
    refine lv_goto (tgt := 199) hx hb dL_act_188 (by decide) ?_
    exact s_L_act_199 hst hB C0  (n + 1) v10 r4 _ _ _ _ hq hH (lv_sub hl [2] rfl)
set_option maxRecDepth 100000 in
set_option maxHeartbeats 4000000 in
theorem s_L_act_173 {x1 : Int32} {x2 : Int32} {Q : Int32 → wI → Prop} (hst : l.stackTraces = false) (hB : ∀ I t, wPo D cs b G I t → wPo D cs b B I t) (C0 : wCx p m c s args meth cL_act 12 RL (some .boolean) D cs ad b) : ∀ (n : Nat) (v8 : Int32) (v10 : Int32) (t0 : Int32) (t1 : Int32) (I : wI) (H : Heap) (locs : List Loc) (ls : Array Slot), v_L_act_173 x1 x2 Q n v8 v10 t0 t1 I → wH D cs b G I s H locs → lv_has ls 12 [(0, .ref (G.1 0)), (8, .int v8), (10, .int v10)] → W p l e rm_L_act s m args below meth c H locs n (12 * n) (MQ below (va_Qi (Q) (wPo D cs b B) (fun q => b ≤ q)) args s 4 (12 * 4) (fun q => b ≤ q)) (F0 m 173 ls [.int t0, .int t1, .ref (G.1 113)]) := by
  obtain ⟨hX, hr, hlk, hK, hE⟩ := id C0
  have hx := hX.1
  have hb := hX.2.1
  have hown := hX.2.2.2.1
  have hts := hX.2.2.2.2
  intro n v8 v10 t0 t1 I H locs ls hq hH hl
  unfold v_L_act_173 at hq
  obtain ⟨hn, hq⟩ := hq
  refine lv_iconst (v := 0) hx hb dL_act_173 (by decide) ?_
  exact s_L_act_174 hst hB C0  n v8 v10 (0 : Int32) t0 t1 _ _ _ _ hq hH (lv_sub hl [0, 1, 2] rfl)
set_option maxRecDepth 100000 in
set_option maxHeartbeats 4000000 in
theorem s_L_act_110 {x1 : Int32} {x2 : Int32} {Q : Int32 → wI → Prop} (hst : l.stackTraces = false) (hB : ∀ I t, wPo D cs b G I t → wPo D cs b B I t) (C0 : wCx p m c s args meth cL_act 12 RL (some .boolean) D cs ad b) : ∀ (n : Nat) (v8 : Int32) (t0 : Int32) (I : wI) (H : Heap) (locs : List Loc) (ls : Array Slot), v_L_act_110 x1 x2 Q n v8 t0 I → wH D cs b G I s H locs → lv_has ls 12 [(0, .ref (G.1 0)), (3, .ref (G.1 111)), (4, .ref (G.1 112)), (5, .ref (G.1 113)), (6, .ref (G.1 114)), (8, .int v8)] → W p l e rm_L_act s m args below meth c H locs n (12 * n) (MQ below (va_Qi (Q) (wPo D cs b B) (fun q => b ≤ q)) args s 4 (12 * 4) (fun q => b ≤ q)) (F0 m 110 ls [.int t0]) := by
  obtain ⟨hX, hr, hlk, hK, hE⟩ := id C0
  have hx := hX.1
  have hb := hX.2.1
  have hown := hX.2.2.2.1
  have hts := hX.2.2.2.2
  intro n v8 t0 I H locs ls hq hH hl
  unfold v_L_act_110 at hq
  obtain ⟨hn, hq⟩ := hq
  refine lv_istore (lv' := [(9, .int t0), (0, .ref (G.1 0)), (3, .ref (G.1 111)), (4, .ref (G.1 112)), (5, .ref (G.1 113)), (6, .ref (G.1 114)), (8, .int v8)]) hx hb dL_act_110 hl (by decide) rfl (fun ls hl => ?_)
  refine lv_aload_n hx hb dL_act_112 rfl (lv_at hl 2 rfl) ?_
  refine lv_aload hx hb dL_act_113 (lv_at hl 3 rfl) ?_
  refine lv_iload hx hb dL_act_115 (lv_at hl 6 rfl) ?_
  obtain ⟨hp, hq⟩ := hq
  refine w_cV hH (w_rS (As := [.ref (G.1 111), .ref (G.1 112), .int v8]) (rest := []) hX hK hE hH (c_L_doTurn (la111 hH.2.2.1) _ _ hp) q3_87 q3_88 q1_0 q3_89 hd_L_doTurn.2 ⟨Nat.le_of_ble_eq_true rfl, Nat.le_of_ble_eq_true rfl⟩ ⟨rfl, rfl⟩ rfl hl.1 rfl (Nat.le_of_ble_eq_true rfl) dL_act_117 ⟨hn, Nat.mul_le_mul_left 12 hn⟩) (fun  I1 H locs hpo hH => ?_)
  have hq := hq  I1 hpo
  refine lv_aload_n hx hb dL_act_120 rfl (lv_at hl 2 rfl) ?_
  refine lv_aload hx hb dL_act_121 (lv_at hl 4 rfl) ?_
  refine lv_aload hx hb dL_act_123 (lv_at hl 5 rfl) ?_
  obtain ⟨hp, hq⟩ := hq
  refine w_cIp hH (w_rS (As := [.ref (G.1 111), .ref (G.1 113), .ref (G.1 114)]) (rest := []) hX hK hE hH (c_L_right (la111 hH.2.2.1)  _ hp) q3_103 q3_104 q1_0 q3_105 hd_L_right.2 ⟨Nat.le_of_ble_eq_true rfl, Nat.le_of_ble_eq_true rfl⟩ ⟨rfl, rfl⟩ rfl hl.1 rfl (Nat.le_of_ble_eq_true rfl) dL_act_125 ⟨hn, Nat.mul_le_mul_left 12 hn⟩) (fun r2  H locs hpo hH => ?_)
  have hq := hq r2  hpo
  refine lv_istore (lv' := [(10, .int r2), (9, .int t0), (0, .ref (G.1 0)), (3, .ref (G.1 111)), (4, .ref (G.1 112)), (5, .ref (G.1 113)), (6, .ref (G.1 114)), (8, .int v8)]) hx hb dL_act_128 hl (by decide) rfl (fun ls hl => ?_)
  refine lv_aload hx hb dL_act_130 (lv_at hl 5 rfl) ?_
  refine lv_iconst (v := 0) hx hb dL_act_132 (by decide) ?_
  refine lv_dup2_11 hx hb dL_act_133 rfl rfl ?_
  obtain ⟨hc, hq⟩ := hq
  refine w_iald5 hX hK hH (la113 hH.2.2.1) hc dL_act_134 ?_
  refine lv_iconst (v := 1) hx hb dL_act_135 (by decide) ?_
  refine lv_iadd hx hb dL_act_136 ?_
  obtain ⟨hc, hq⟩ := hq
  refine w_iast5 hX hK hH (la113 hH.2.2.1) hc dL_act_137 (fun I3 H locs hI hH => ?_)
  have hq := hq I3 hI
  refine lv_aload hx hb dL_act_138 (lv_at hl 4 rfl) ?_
  refine lv_bipush (v := 10) hx hb dL_act_140 (by decide) ?_
  refine lv_iload hx hb dL_act_142 (lv_at hl 7 rfl) ?_
  refine lv_iconst (v := 5) hx hb dL_act_144 (by decide) ?_
  refine lv_irem hx hb dL_act_145 (by decide) ?_
  refine lv_iadd hx hb dL_act_146 ?_
  refine lv_dup2_11 hx hb dL_act_147 rfl rfl ?_
  obtain ⟨hc, hq⟩ := hq
  refine w_iald5 hX hK hH (la112 hH.2.2.1) hc dL_act_148 ?_
  refine lv_iconst (v := 1) hx hb dL_act_149 (by decide) ?_
  refine lv_iadd hx hb dL_act_150 ?_
  obtain ⟨hc, hq⟩ := hq
  refine w_iast5 hX hK hH (la112 hH.2.2.1) hc dL_act_151 (fun I4 H locs hI hH => ?_)
  have hq := hq I4 hI
  refine lv_aload hx hb dL_act_152 (lv_at hl 5 rfl) ?_
  refine lv_iconst (v := 1) hx hb dL_act_154 (by decide) ?_
  refine lv_dup2_11 hx hb dL_act_155 rfl rfl ?_
  obtain ⟨hc, hq⟩ := hq
  refine w_iald5 hX hK hH (la113 hH.2.2.1) hc dL_act_156 ?_
  refine lv_iload hx hb dL_act_157 (lv_at hl 1 rfl) ?_
  refine lv_if_ne (tgt := 173) hx hb dL_act_159 (by decide) (fun hc => ?_) (fun hc => ?_)
  · have hq := hq.1 hc
    exact s_L_act_173 hst hB C0  n v8 r2 (I4 113 ((1 : Int32)).toNatClampNeg) (1 : Int32) _ _ _ _ hq hH (lv_sub hl [2, 7, 0] rfl)
  · have hq := hq.2 hc
    refine lv_iload hx hb dL_act_162 (lv_at hl 0 rfl) ?_
    refine lv_bipush (v := 6) hx hb dL_act_164 (by decide) ?_
    refine lv_icmp_ne (tgt := 173) hx hb dL_act_166 (by decide) (fun hc => ?_) (fun hc => ?_)
    · have hq := hq.1 hc
      exact s_L_act_173 hst hB C0  n v8 r2 (I4 113 ((1 : Int32)).toNatClampNeg) (1 : Int32) _ _ _ _ hq hH (lv_sub hl [2, 7, 0] rfl)
    · have hq := hq.2 hc
      refine lv_iconst (v := 1) hx hb dL_act_169 (by decide) ?_
      refine lv_goto (tgt := 174) hx hb dL_act_170 (by decide) ?_
      exact s_L_act_174 hst hB C0  n v8 r2 (1 : Int32) (I4 113 ((1 : Int32)).toNatClampNeg) (1 : Int32) _ _ _ _ hq hH (lv_sub hl [2, 7, 0] rfl)
set_option maxRecDepth 100000 in
set_option maxHeartbeats 4000000 in
theorem s_L_act_91 {x1 : Int32} {x2 : Int32} {Q : Int32 → wI → Prop} (hst : l.stackTraces = false) (hB : ∀ I t, wPo D cs b G I t → wPo D cs b B I t) (C0 : wCx p m c s args meth cL_act 12 RL (some .boolean) D cs ad b) : ∀ (n : Nat) (t0 : Int32) (I : wI) (H : Heap) (locs : List Loc) (ls : Array Slot), v_L_act_91 x1 x2 Q n t0 I → wH D cs b G I s H locs → lv_has ls 12 [] → W p l e rm_L_act s m args below meth c H locs n (12 * n) (MQ below (va_Qi (Q) (wPo D cs b B) (fun q => b ≤ q)) args s 4 (12 * 4) (fun q => b ≤ q)) (F0 m 91 ls [.int t0]) := by
  obtain ⟨hX, hr, hlk, hK, hE⟩ := id C0
  have hx := hX.1
  have hb := hX.2.1
  have hown := hX.2.2.2.1
  have hts := hX.2.2.2.2
  intro n t0 I H locs ls hq hH hl
  unfold v_L_act_91 at hq
  obtain ⟨hn, hq⟩ := hq
  obtain ⟨hz, hq⟩ := hq
  refine W.widen (k := 4) (n := 12 * 4) hn (Nat.mul_le_mul_left 12 hn) ?_
  exact w_eZB hB hz hX hr hlk hH hq dL_act_91
set_option maxRecDepth 100000 in
set_option maxHeartbeats 4000000 in
theorem s_L_act_90 {x1 : Int32} {x2 : Int32} {Q : Int32 → wI → Prop} (hst : l.stackTraces = false) (hB : ∀ I t, wPo D cs b G I t → wPo D cs b B I t) (C0 : wCx p m c s args meth cL_act 12 RL (some .boolean) D cs ad b) : ∀ (n : Nat) (I : wI) (H : Heap) (locs : List Loc) (ls : Array Slot), v_L_act_90 x1 x2 Q n I → wH D cs b G I s H locs → lv_has ls 12 [] → W p l e rm_L_act s m args below meth c H locs n (12 * n) (MQ below (va_Qi (Q) (wPo D cs b B) (fun q => b ≤ q)) args s 4 (12 * 4) (fun q => b ≤ q)) (F0 m 90 ls []) := by
  obtain ⟨hX, hr, hlk, hK, hE⟩ := id C0
  have hx := hX.1
  have hb := hX.2.1
  have hown := hX.2.2.2.1
  have hts := hX.2.2.2.2
  intro n I H locs ls hq hH hl
  unfold v_L_act_90 at hq
  obtain ⟨hn, hq⟩ := hq
  refine lv_iconst (v := 0) hx hb dL_act_90 (by decide) ?_
  exact s_L_act_91 hst hB C0  n (0 : Int32) _ _ _ _ hq hH (lv_sub hl [] rfl)
set_option maxRecDepth 100000 in
set_option maxHeartbeats 4000000 in
theorem s_L_act_61 {x1 : Int32} {x2 : Int32} {Q : Int32 → wI → Prop} (hst : l.stackTraces = false) (hB : ∀ I t, wPo D cs b G I t → wPo D cs b B I t) (C0 : wCx p m c s args meth cL_act 12 RL (some .boolean) D cs ad b) : ∀ (n : Nat) (t0 : Int32) (I : wI) (H : Heap) (locs : List Loc) (ls : Array Slot), v_L_act_61 x1 x2 Q n t0 I → wH D cs b G I s H locs → lv_has ls 12 [(0, .ref (G.1 0))] → W p l e rm_L_act s m args below meth c H locs n (12 * n) (MQ below (va_Qi (Q) (wPo D cs b B) (fun q => b ≤ q)) args s 4 (12 * 4) (fun q => b ≤ q)) (F0 m 61 ls [.int t0]) := by
  obtain ⟨hX, hr, hlk, hK, hE⟩ := id C0
  have hx := hX.1
  have hb := hX.2.1
  have hown := hX.2.2.2.1
  have hts := hX.2.2.2.2
  intro n t0 I H locs ls hq hH hl
  unfold v_L_act_61 at hq
  obtain ⟨hn, hq⟩ := hq
  refine lv_bipush (v := -33) hx hb dL_act_61 (by decide) ?_
  refine lv_icmp_ne (tgt := 90) hx hb dL_act_63 (by decide) (fun hc => ?_) (fun hc => ?_)
  · have hq := hq.1 hc
    exact s_L_act_90 hst hB C0  n _ _ _ _ hq hH (lv_sub hl [] rfl)
  · have hq := hq.2 hc
    refine lv_aload_n hx hb dL_act_66 rfl (lv_at hl 0 rfl) ?_
    refine lv_iconst (v := 5) hx hb dL_act_67 (by decide) ?_
    obtain ⟨hn, hq⟩ := hq
    obtain ⟨hp, hq⟩ := hq
    refine n_cI hH (w_rSW (As := [.ref (G.1 0), .int (5 : Int32)]) (rest := []) hX hK hE hH (c_L_turn hst _ _ hp) q3_131 q3_132 q1_0 q3_133 hd_L_turn ⟨Nat.le_of_ble_eq_true rfl, Nat.le_of_ble_eq_true rfl⟩ ⟨rfl, rfl⟩ rfl hl.1 rfl (Nat.le_of_ble_eq_true rfl) dL_act_68 (n_fit hn (by decide))) (by decide) (fun r1 I2 H locs hpo hH => ?_)
    have hq := hq r1 I2 hpo
    refine lv_bipush (v := -31) hx hb dL_act_71 (by decide) ?_
    refine lv_icmp_ne (tgt := 90) hx hb dL_act_73 (by decide) (fun hc => ?_) (fun hc => ?_)
    · have hq := hq.1 hc
      exact s_L_act_90 hst hB C0  (n + 1) _ _ _ _ hq hH (lv_sub hl [] rfl)
    · have hq := hq.2 hc
      refine lv_aload_n hx hb dL_act_76 rfl (lv_at hl 0 rfl) ?_
      refine lv_iconst (v := -1) hx hb dL_act_77 (by decide) ?_
      obtain ⟨hn, hq⟩ := hq
      obtain ⟨hp, hq⟩ := hq
      refine n_cI hH (w_rSW (As := [.ref (G.1 0), .int (-1 : Int32)]) (rest := []) hX hK hE hH (c_L_back hst _ _ hp) q3_157 q3_158 q1_0 q3_159 hd_L_back ⟨Nat.le_of_ble_eq_true rfl, Nat.le_of_ble_eq_true rfl⟩ ⟨rfl, rfl⟩ rfl hl.1 rfl (Nat.le_of_ble_eq_true rfl) dL_act_78 (n_fit hn (by decide))) (by decide) (fun r3 I4 H locs hpo hH => ?_)
      have hq := hq r3 I4 hpo
      refine lv_bipush (v := -31) hx hb dL_act_81 (by decide) ?_
      refine lv_icmp_ne (tgt := 90) hx hb dL_act_83 (by decide) (fun hc => ?_) (fun hc => ?_)
      · have hq := hq.1 hc
        exact s_L_act_90 hst hB C0  ((n + 1) + 1) _ _ _ _ hq hH (lv_sub hl [] rfl)
      · have hq := hq.2 hc
        refine lv_iconst (v := 1) hx hb dL_act_86 (by decide) ?_
        refine lv_goto (tgt := 91) hx hb dL_act_87 (by decide) ?_
        exact s_L_act_91 hst hB C0  ((n + 1) + 1) (1 : Int32) _ _ _ _ hq hH (lv_sub hl [] rfl)
set_option maxRecDepth 100000 in
set_option maxHeartbeats 4000000 in
theorem c_L_act {l : Launch} {D : va_G} {cs : wC4} {ad : Nat → Nat} {b : Nat} {G : wG} (hst : l.stackTraces = false) (x1 : Int32) (x2 : Int32) (I : wI) (hp : pre_L_act x1 x2 I) : Met l yL_act (ws_ yL_act cL_act 12 (some .boolean)) rm_L_act (va_Pc [.ref (G.1 0), .int x1, .int x2, .ref (G.1 111), .ref (G.1 112), .ref (G.1 113), .ref (G.1 114)] (wPr D cs ad b G I)) (va_Qi (fun r I' => post_L_act x1 x2 I r I') (wPo D cs b G) (fun q => b ≤ q)) 4 (12 * 4) (fun q => b ≤ q) := by
  have hq := vc_L_act x1 x2 I hp
  refine w_met (by decide) (Nat.le_of_ble_eq_true rfl) ?_
  intro p e s m below meth c hX hr hlk hK hE hH ls hl
  have C0 : wCx p m c s _ meth cL_act 12 RL (some .boolean) D cs ad b := ⟨hX, hr, hlk, hK, hE⟩
  have hX : CallFix p m c cL_act 12 s _ lw_all RL := hX
  have hx := hX.1
  have hb := hX.2.1
  have hown := hX.2.2.2.1
  have hts := hX.2.2.2.2
  have hB : ∀ I t, wPo D cs b G I t → wPo D cs b G I t := fun _ _ h => h
  have hn : 0 ≤ 4 := Nat.zero_le _
  refine w_n0 ?_
  have hl : lv_has ls 12 [(0, .ref (G.1 0)), (1, .int x1), (2, .int x2), (3, .ref (G.1 111)), (4, .ref (G.1 112)), (5, .ref (G.1 113)), (6, .ref (G.1 114))] := hl
  unfold v_L_act at hq
  refine lv_iload_n hx hb dL_act_0 rfl (lv_at hl 1 rfl) ?_
  refine lv_bipush (v := 16) hx hb dL_act_1 (by decide) ?_
  obtain ⟨hp, hq⟩ := hq
  refine w_cIp hH (w_rS (As := [.int x1, .int (16 : Int32)]) (rest := []) hX hK hE hH (c_L_low  _ _ _ hp) q3_127 q3_128 q1_0 q3_129 hd_L_low.2 ⟨Nat.le_of_ble_eq_true rfl, Nat.le_of_ble_eq_true rfl⟩ ⟨rfl, rfl⟩ rfl hl.1 rfl (Nat.le_of_ble_eq_true rfl) dL_act_3 ⟨hn, Nat.mul_le_mul_left 12 hn⟩) (fun r1  H locs hpo hH => ?_)
  have hq := hq r1  hpo
  refine lv_istore (lv' := [(7, .int r1), (0, .ref (G.1 0)), (1, .int x1), (2, .int x2), (3, .ref (G.1 111)), (4, .ref (G.1 112)), (5, .ref (G.1 113)), (6, .ref (G.1 114))]) hx hb dL_act_6 hl (by decide) rfl (fun ls hl => ?_)
  refine lv_iload hx hb dL_act_8 (lv_at hl 0 rfl) ?_
  refine lv_bipush (v := 10) hx hb dL_act_10 (by decide) ?_
  refine lv_icmp_ge (tgt := 210) hx hb dL_act_12 (by decide) (fun hc => ?_) (fun hc => ?_)
  · have hq := hq.1 hc
    refine lv_iload hx hb dL_act_210 (lv_at hl 0 rfl) ?_
    refine lv_bipush (v := 10) hx hb dL_act_212 (by decide) ?_
    refine lv_icmp_ne (tgt := 309) hx hb dL_act_214 (by decide) (fun hc => ?_) (fun hc => ?_)
    · have hq := hq.1 hc
      refine lv_iload hx hb dL_act_309 (lv_at hl 0 rfl) ?_
      refine lv_bipush (v := 13) hx hb dL_act_311 (by decide) ?_
      refine lv_icmp_ge (tgt := 456) hx hb dL_act_313 (by decide) (fun hc => ?_) (fun hc => ?_)
      · have hq := hq.1 hc
        refine lv_iload hx hb dL_act_456 (lv_at hl 0 rfl) ?_
        refine lv_bipush (v := 13) hx hb dL_act_458 (by decide) ?_
        refine lv_icmp_ne (tgt := 551) hx hb dL_act_460 (by decide) (fun hc => ?_) (fun hc => ?_)
        · have hq := hq.1 hc
          refine lv_aload hx hb dL_act_551 (lv_at hl 6 rfl) ?_
          refine lv_iconst (v := 2) hx hb dL_act_553 (by decide) ?_
          obtain ⟨hc, hq⟩ := hq
          refine w_iald5 hX hK hH (la113 hH.2.2.1) hc dL_act_554 ?_
          refine lv_iconst (v := 1) hx hb dL_act_555 (by decide) ?_
          refine lv_icmp_ne (tgt := 567) hx hb dL_act_556 (by decide) (fun hc => ?_) (fun hc => ?_)
          · have hq := hq.1 hc
            exact s_L_act_567 hst hB C0  0 _ _ _ _ hq hH (lv_sub hl [1, 4, 6, 7] rfl)
          · have hq := hq.2 hc
            refine lv_iload_n hx hb dL_act_559 rfl (lv_at hl 3 rfl) ?_
            refine lv_iconst (v := 3) hx hb dL_act_560 (by decide) ?_
            refine lv_iand hx hb dL_act_561 ?_
            refine lv_if_le (tgt := 567) hx hb dL_act_562 (by decide) (fun hc => ?_) (fun hc => ?_)
            · have hq := hq.1 hc
              exact s_L_act_567 hst hB C0  0 _ _ _ _ hq hH (lv_sub hl [1, 4, 6, 7] rfl)
            · have hq := hq.2 hc
              refine lv_iconst (v := 1) hx hb dL_act_565 (by decide) ?_
              refine W.widen (k := 4) (n := 12 * 4) hn (Nat.mul_le_mul_left 12 hn) ?_
              exact w_eZB hB (by decide) hX hr hlk hH hq dL_act_566
        · have hq := hq.2 hc
          refine lv_aload hx hb dL_act_463 (lv_at hl 6 rfl) ?_
          refine lv_iconst (v := 3) hx hb dL_act_465 (by decide) ?_
          refine lv_dup2_11 hx hb dL_act_466 rfl rfl ?_
          obtain ⟨hc, hq⟩ := hq
          refine w_iald5 hX hK hH (la113 hH.2.2.1) hc dL_act_467 ?_
          refine lv_iconst (v := 1) hx hb dL_act_468 (by decide) ?_
          refine lv_iload_n hx hb dL_act_469 rfl (lv_at hl 3 rfl) ?_
          refine lv_bipush (v := 6) hx hb dL_act_470 (by decide) ?_
          obtain ⟨hp, hq⟩ := hq
          refine w_cIp hH (w_rS (As := [.int x2, .int (6 : Int32)]) (rest := [.int (1 : Int32), .int (I 113 ((3 : Int32)).toNatClampNeg), .int (3 : Int32), .ref (G.1 113)]) hX hK hE hH (c_L_low  _ _ _ hp) q3_127 q3_128 q1_0 q3_129 hd_L_low.2 ⟨Nat.le_of_ble_eq_true rfl, Nat.le_of_ble_eq_true rfl⟩ ⟨rfl, rfl⟩ rfl hl.1 rfl (Nat.le_of_ble_eq_true rfl) dL_act_472 ⟨hn, Nat.mul_le_mul_left 12 hn⟩) (fun r2  H locs hpo hH => ?_)
          have hq := hq r2  hpo
          refine lv_ishl hx hb dL_act_475 ?_
          refine lv_ixor hx hb dL_act_476 ?_
          obtain ⟨hc, hq⟩ := hq
          refine w_iast5 hX hK hH (la113 hH.2.2.1) hc dL_act_477 (fun I3 H locs hI hH => ?_)
          have hq := hq I3 hI
          refine lv_iconst (v := 0) hx hb dL_act_478 (by decide) ?_
          refine lv_istore (lv' := [(8, .int (0 : Int32)), (7, .int r1), (0, .ref (G.1 0)), (1, .int x1), (2, .int x2), (3, .ref (G.1 111)), (4, .ref (G.1 112)), (5, .ref (G.1 113)), (6, .ref (G.1 114))]) hx hb dL_act_479 hl (by decide) rfl (fun ls hl => ?_)
          refine lv_iconst (v := 0) hx hb dL_act_481 (by decide) ?_
          refine lv_istore (lv' := [(9, .int (0 : Int32)), (8, .int (0 : Int32)), (7, .int r1), (0, .ref (G.1 0)), (1, .int x1), (2, .int x2), (3, .ref (G.1 111)), (4, .ref (G.1 112)), (5, .ref (G.1 113)), (6, .ref (G.1 114))]) hx hb dL_act_482 hl (by decide) rfl (fun ls hl => ?_)
          obtain ⟨f, hq⟩ := hq
          exact s_L_act_484 hst hB C0  f 0 (0 : Int32) (0 : Int32) _ _ _ _ hq hH (lv_sub hl [3, 5, 7, 8, 1, 0] rfl)
      · have hq := hq.2 hc
        refine lv_iload_n hx hb dL_act_316 rfl (lv_at hl 3 rfl) ?_
        refine lv_iconst (v := 5) hx hb dL_act_317 (by decide) ?_
        obtain ⟨hp, hq⟩ := hq
        refine w_cIp hH (w_rS (As := [.int x2, .int (5 : Int32)]) (rest := []) hX hK hE hH (c_L_low  _ _ _ hp) q3_127 q3_128 q1_0 q3_129 hd_L_low.2 ⟨Nat.le_of_ble_eq_true rfl, Nat.le_of_ble_eq_true rfl⟩ ⟨rfl, rfl⟩ rfl hl.1 rfl (Nat.le_of_ble_eq_true rfl) dL_act_318 ⟨hn, Nat.mul_le_mul_left 12 hn⟩) (fun r4  H locs hpo hH => ?_)
        have hq := hq r4  hpo
        refine lv_istore (lv' := [(8, .int r4), (7, .int r1), (0, .ref (G.1 0)), (1, .int x1), (2, .int x2), (3, .ref (G.1 111)), (4, .ref (G.1 112)), (5, .ref (G.1 113)), (6, .ref (G.1 114))]) hx hb dL_act_321 hl (by decide) rfl (fun ls hl => ?_)
        refine lv_iload_n hx hb dL_act_323 rfl (lv_at hl 4 rfl) ?_
        refine lv_iconst (v := 3) hx hb dL_act_324 (by decide) ?_
        refine lv_ishr hx hb dL_act_325 ?_
        refine lv_bipush (v := 63) hx hb dL_act_326 (by decide) ?_
        refine lv_iand hx hb dL_act_328 ?_
        refine lv_istore (lv' := [(9, .int ((x2 >>> ((3 : Int32) &&& 31)) &&& (63 : Int32))), (8, .int r4), (7, .int r1), (0, .ref (G.1 0)), (1, .int x1), (2, .int x2), (3, .ref (G.1 111)), (4, .ref (G.1 112)), (5, .ref (G.1 113)), (6, .ref (G.1 114))]) hx hb dL_act_329 hl (by decide) rfl (fun ls hl => ?_)
        refine lv_iload_n hx hb dL_act_331 rfl (lv_at hl 5 rfl) ?_
        refine lv_bipush (v := 9) hx hb dL_act_332 (by decide) ?_
        refine lv_ishr hx hb dL_act_334 ?_
        refine lv_iconst (v := 5) hx hb dL_act_335 (by decide) ?_
        obtain ⟨hp, hq⟩ := hq
        refine w_cIp hH (w_rS (As := [.int (x2 >>> ((9 : Int32) &&& 31)), .int (5 : Int32)]) (rest := []) hX hK hE hH (c_L_low  _ _ _ hp) q3_127 q3_128 q1_0 q3_129 hd_L_low.2 ⟨Nat.le_of_ble_eq_true rfl, Nat.le_of_ble_eq_true rfl⟩ ⟨rfl, rfl⟩ rfl hl.1 rfl (Nat.le_of_ble_eq_true rfl) dL_act_336 ⟨hn, Nat.mul_le_mul_left 12 hn⟩) (fun r5  H locs hpo hH => ?_)
        have hq := hq r5  hpo
        refine lv_istore (lv' := [(10, .int r5), (9, .int ((x2 >>> ((3 : Int32) &&& 31)) &&& (63 : Int32))), (8, .int r4), (7, .int r1), (0, .ref (G.1 0)), (1, .int x1), (2, .int x2), (3, .ref (G.1 111)), (4, .ref (G.1 112)), (5, .ref (G.1 113)), (6, .ref (G.1 114))]) hx hb dL_act_339 hl (by decide) rfl (fun ls hl => ?_)
        refine lv_iload hx hb dL_act_341 (lv_at hl 1 rfl) ?_
        obtain ⟨hp, hq⟩ := hq
        refine w_cIp hH (w_rS (As := [.int ((x2 >>> ((3 : Int32) &&& 31)) &&& (63 : Int32))]) (rest := []) hX hK hE hH (c_L_ones  _ _ hp) q3_93 q3_94 q1_0 q3_95 hd_L_ones.2 ⟨Nat.le_of_ble_eq_true rfl, Nat.le_of_ble_eq_true rfl⟩ ⟨rfl, rfl⟩ rfl hl.1 rfl (Nat.le_of_ble_eq_true rfl) dL_act_343 ⟨hn, Nat.mul_le_mul_left 12 hn⟩) (fun r6  H locs hpo hH => ?_)
        have hq := hq r6  hpo
        refine lv_iconst (v := 2) hx hb dL_act_346 (by decide) ?_
        refine lv_icmp_ge (tgt := 412) hx hb dL_act_347 (by decide) (fun hc => ?_) (fun hc => ?_)
        · have hq := hq.1 hc
          refine lv_aload hx hb dL_act_412 (lv_at hl 8 rfl) ?_
          refine lv_iload hx hb dL_act_414 (lv_at hl 2 rfl) ?_
          obtain ⟨hc, hq⟩ := hq
          refine w_iald5 hX hK hH (la112 hH.2.2.1) hc dL_act_416 ?_
          refine lv_istore (lv' := [(11, .int (I 112 (r4).toNatClampNeg)), (10, .int r5), (9, .int ((x2 >>> ((3 : Int32) &&& 31)) &&& (63 : Int32))), (8, .int r4), (7, .int r1), (0, .ref (G.1 0)), (1, .int x1), (2, .int x2), (3, .ref (G.1 111)), (4, .ref (G.1 112)), (5, .ref (G.1 113)), (6, .ref (G.1 114))]) hx hb dL_act_417 hl (by decide) rfl (fun ls hl => ?_)
          refine lv_aload hx hb dL_act_419 (lv_at hl 9 rfl) ?_
          refine lv_iload hx hb dL_act_421 (lv_at hl 3 rfl) ?_
          refine lv_iload hx hb dL_act_423 (lv_at hl 2 rfl) ?_
          obtain ⟨hc, hq⟩ := hq
          refine w_iast5 hX hK hH (la112 hH.2.2.1) hc dL_act_425 (fun I7 H locs hI hH => ?_)
          have hq := hq I7 hI
          refine lv_aload hx hb dL_act_426 (lv_at hl 9 rfl) ?_
          refine lv_iconst (v := 5) hx hb dL_act_428 (by decide) ?_
          refine lv_iload hx hb dL_act_429 (lv_at hl 3 rfl) ?_
          refine lv_iadd hx hb dL_act_431 ?_
          refine lv_iload hx hb dL_act_432 (lv_at hl 1 rfl) ?_
          obtain ⟨hc, hq⟩ := hq
          refine w_iast5 hX hK hH (la112 hH.2.2.1) hc dL_act_434 (fun I8 H locs hI hH => ?_)
          have hq := hq I8 hI
          refine lv_aload_n hx hb dL_act_435 rfl (lv_at hl 5 rfl) ?_
          refine lv_iload hx hb dL_act_436 (lv_at hl 3 rfl) ?_
          refine lv_iload hx hb dL_act_438 (lv_at hl 2 rfl) ?_
          refine lv_iload hx hb dL_act_440 (lv_at hl 1 rfl) ?_
          obtain ⟨hn, hq⟩ := hq
          obtain ⟨hp, hq⟩ := hq
          refine n_cI hH (w_rSW (As := [.ref (G.1 0), .int r4, .int ((x2 >>> ((3 : Int32) &&& 31)) &&& (63 : Int32)), .int r5]) (rest := []) hX hK hE hH (c_L_cut hst _ _ _ _ hp) q3_168 q3_169 q1_0 q3_170 hd_L_cut ⟨Nat.le_of_ble_eq_true rfl, Nat.le_of_ble_eq_true rfl⟩ ⟨rfl, rfl⟩ rfl hl.1 rfl (Nat.le_of_ble_eq_true rfl) dL_act_442 (n_fit hn (by decide))) (by decide) (fun r9 I10 H locs hpo hH => ?_)
          have hq := hq r9 I10 hpo
          refine lv_iload hx hb dL_act_445 (lv_at hl 0 rfl) ?_
          refine lv_icmp_ne (tgt := 454) hx hb dL_act_447 (by decide) (fun hc => ?_) (fun hc => ?_)
          · have hq := hq.1 hc
            refine lv_iconst (v := 0) hx hb dL_act_454 (by decide) ?_
            exact s_L_act_455 hst hB C0  (0 + 1) (0 : Int32) _ _ _ _ hq hH (lv_sub hl [] rfl)
          · have hq := hq.2 hc
            refine lv_iconst (v := 1) hx hb dL_act_450 (by decide) ?_
            refine lv_goto (tgt := 455) hx hb dL_act_451 (by decide) ?_
            exact s_L_act_455 hst hB C0  (0 + 1) (1 : Int32) _ _ _ _ hq hH (lv_sub hl [] rfl)
        · have hq := hq.2 hc
          refine lv_aload_n hx hb dL_act_350 rfl (lv_at hl 4 rfl) ?_
          refine lv_iload hx hb dL_act_351 (lv_at hl 2 rfl) ?_
          refine lv_iload hx hb dL_act_353 (lv_at hl 1 rfl) ?_
          refine lv_iload hx hb dL_act_355 (lv_at hl 0 rfl) ?_
          obtain ⟨hn, hq⟩ := hq
          obtain ⟨hp, hq⟩ := hq
          refine n_cI hH (w_rSW (As := [.ref (G.1 0), .int r4, .int ((x2 >>> ((3 : Int32) &&& 31)) &&& (63 : Int32)), .int r5]) (rest := []) hX hK hE hH (c_L_cut hst _ _ _ _ hp) q3_168 q3_169 q1_0 q3_170 hd_L_cut ⟨Nat.le_of_ble_eq_true rfl, Nat.le_of_ble_eq_true rfl⟩ ⟨rfl, rfl⟩ rfl hl.1 rfl (Nat.le_of_ble_eq_true rfl) dL_act_357 (n_fit hn (by decide))) (by decide) (fun r11 I12 H locs hpo hH => ?_)
          have hq := hq r11 I12 hpo
          refine lv_bipush (v := -32) hx hb dL_act_360 (by decide) ?_
          refine lv_icmp_ne (tgt := 410) hx hb dL_act_362 (by decide) (fun hc => ?_) (fun hc => ?_)
          · have hq := hq.1 hc
            exact s_L_act_410 hst hB C0  (0 + 1) _ _ _ _ hq hH (lv_sub hl [] rfl)
          · have hq := hq.2 hc
            refine lv_aload_n hx hb dL_act_365 rfl (lv_at hl 4 rfl) ?_
            refine lv_iconst (v := 5) hx hb dL_act_366 (by decide) ?_
            refine lv_iload hx hb dL_act_367 (lv_at hl 1 rfl) ?_
            refine lv_iload hx hb dL_act_369 (lv_at hl 0 rfl) ?_
            obtain ⟨hn, hq⟩ := hq
            obtain ⟨hp, hq⟩ := hq
            refine n_cI hH (w_rSW (As := [.ref (G.1 0), .int (5 : Int32), .int ((x2 >>> ((3 : Int32) &&& 31)) &&& (63 : Int32)), .int r5]) (rest := []) hX hK hE hH (c_L_cut hst _ _ _ _ hp) q3_168 q3_169 q1_0 q3_170 hd_L_cut ⟨Nat.le_of_ble_eq_true rfl, Nat.le_of_ble_eq_true rfl⟩ ⟨rfl, rfl⟩ rfl hl.1 rfl (Nat.le_of_ble_eq_true rfl) dL_act_371 (n_fit hn (by decide))) (by decide) (fun r13 I14 H locs hpo hH => ?_)
            have hq := hq r13 I14 hpo
            refine lv_bipush (v := -31) hx hb dL_act_374 (by decide) ?_
            refine lv_icmp_ne (tgt := 410) hx hb dL_act_376 (by decide) (fun hc => ?_) (fun hc => ?_)
            · have hq := hq.1 hc
              exact s_L_act_410 hst hB C0  ((0 + 1) + 1) _ _ _ _ hq hH (lv_sub hl [] rfl)
            · have hq := hq.2 hc
              refine lv_aload_n hx hb dL_act_379 rfl (lv_at hl 4 rfl) ?_
              refine lv_iload hx hb dL_act_380 (lv_at hl 2 rfl) ?_
              refine lv_bipush (v := 64) hx hb dL_act_382 (by decide) ?_
              refine lv_iconst (v := 0) hx hb dL_act_384 (by decide) ?_
              obtain ⟨hn, hq⟩ := hq
              obtain ⟨hp, hq⟩ := hq
              refine n_cI hH (w_rSW (As := [.ref (G.1 0), .int r4, .int (64 : Int32), .int (0 : Int32)]) (rest := []) hX hK hE hH (c_L_cut hst _ _ _ _ hp) q3_168 q3_169 q1_0 q3_170 hd_L_cut ⟨Nat.le_of_ble_eq_true rfl, Nat.le_of_ble_eq_true rfl⟩ ⟨rfl, rfl⟩ rfl hl.1 rfl (Nat.le_of_ble_eq_true rfl) dL_act_385 (n_fit hn (by decide))) (by decide) (fun r15 I16 H locs hpo hH => ?_)
              have hq := hq r15 I16 hpo
              refine lv_bipush (v := -32) hx hb dL_act_388 (by decide) ?_
              refine lv_icmp_ne (tgt := 410) hx hb dL_act_390 (by decide) (fun hc => ?_) (fun hc => ?_)
              · have hq := hq.1 hc
                exact s_L_act_410 hst hB C0  (((0 + 1) + 1) + 1) _ _ _ _ hq hH (lv_sub hl [] rfl)
              · have hq := hq.2 hc
                refine lv_aload_n hx hb dL_act_393 rfl (lv_at hl 4 rfl) ?_
                refine lv_iload hx hb dL_act_394 (lv_at hl 2 rfl) ?_
                refine lv_iconst (v := 3) hx hb dL_act_396 (by decide) ?_
                refine lv_iconst (v := 5) hx hb dL_act_397 (by decide) ?_
                obtain ⟨hn, hq⟩ := hq
                obtain ⟨hp, hq⟩ := hq
                refine n_cI hH (w_rSW (As := [.ref (G.1 0), .int r4, .int (3 : Int32), .int (5 : Int32)]) (rest := []) hX hK hE hH (c_L_cut hst _ _ _ _ hp) q3_168 q3_169 q1_0 q3_170 hd_L_cut ⟨Nat.le_of_ble_eq_true rfl, Nat.le_of_ble_eq_true rfl⟩ ⟨rfl, rfl⟩ rfl hl.1 rfl (Nat.le_of_ble_eq_true rfl) dL_act_398 (n_fit hn (by decide))) (by decide) (fun r17 I18 H locs hpo hH => ?_)
                have hq := hq r17 I18 hpo
                refine lv_bipush (v := -32) hx hb dL_act_401 (by decide) ?_
                refine lv_icmp_ne (tgt := 410) hx hb dL_act_403 (by decide) (fun hc => ?_) (fun hc => ?_)
                · have hq := hq.1 hc
                  exact s_L_act_410 hst hB C0  ((((0 + 1) + 1) + 1) + 1) _ _ _ _ hq hH (lv_sub hl [] rfl)
                · have hq := hq.2 hc
                  refine lv_iconst (v := 1) hx hb dL_act_406 (by decide) ?_
                  refine lv_goto (tgt := 411) hx hb dL_act_407 (by decide) ?_
                  exact s_L_act_411 hst hB C0  ((((0 + 1) + 1) + 1) + 1) (1 : Int32) _ _ _ _ hq hH (lv_sub hl [] rfl)
    · have hq := hq.2 hc
      refine lv_iconst (v := 0) hx hb dL_act_217 (by decide) ?_
      refine lv_istore (lv' := [(8, .int (0 : Int32)), (7, .int r1), (0, .ref (G.1 0)), (1, .int x1), (2, .int x2), (3, .ref (G.1 111)), (4, .ref (G.1 112)), (5, .ref (G.1 113)), (6, .ref (G.1 114))]) hx hb dL_act_218 hl (by decide) rfl (fun ls hl => ?_)
      refine lv_iconst (v := 0) hx hb dL_act_220 (by decide) ?_
      refine lv_istore (lv' := [(9, .int (0 : Int32)), (8, .int (0 : Int32)), (7, .int r1), (0, .ref (G.1 0)), (1, .int x1), (2, .int x2), (3, .ref (G.1 111)), (4, .ref (G.1 112)), (5, .ref (G.1 113)), (6, .ref (G.1 114))]) hx hb dL_act_221 hl (by decide) rfl (fun ls hl => ?_)
      obtain ⟨f, hq⟩ := hq
      exact s_L_act_223 hst hB C0  f 0 (0 : Int32) (0 : Int32) _ _ _ _ hq hH (lv_sub hl [3, 5, 6, 1, 0] rfl)
  · have hq := hq.2 hc
    refine lv_iload_n hx hb dL_act_15 rfl (lv_at hl 3 rfl) ?_
    refine lv_bipush (v := 10) hx hb dL_act_16 (by decide) ?_
    obtain ⟨hp, hq⟩ := hq
    refine w_cIp hH (w_rS (As := [.int x2, .int (10 : Int32)]) (rest := []) hX hK hE hH (c_L_low  _ _ _ hp) q3_127 q3_128 q1_0 q3_129 hd_L_low.2 ⟨Nat.le_of_ble_eq_true rfl, Nat.le_of_ble_eq_true rfl⟩ ⟨rfl, rfl⟩ rfl hl.1 rfl (Nat.le_of_ble_eq_true rfl) dL_act_18 ⟨hn, Nat.mul_le_mul_left 12 hn⟩) (fun r19  H locs hpo hH => ?_)
    have hq := hq r19  hpo
    refine lv_istore (lv' := [(8, .int r19), (7, .int r1), (0, .ref (G.1 0)), (1, .int x1), (2, .int x2), (3, .ref (G.1 111)), (4, .ref (G.1 112)), (5, .ref (G.1 113)), (6, .ref (G.1 114))]) hx hb dL_act_21 hl (by decide) rfl (fun ls hl => ?_)
    refine lv_aload hx hb dL_act_23 (lv_at hl 6 rfl) ?_
    refine lv_iload hx hb dL_act_25 (lv_at hl 0 rfl) ?_
    refine lv_iconst (v := 5) hx hb dL_act_27 (by decide) ?_
    refine lv_irem hx hb dL_act_28 (by decide) ?_
    obtain ⟨hc, hq⟩ := hq
    refine w_iald5 hX hK hH (la112 hH.2.2.1) hc dL_act_29 ?_
    refine lv_aload hx hb dL_act_30 (lv_at hl 7 rfl) ?_
    refine lv_iconst (v := 3) hx hb dL_act_32 (by decide) ?_
    obtain ⟨hc, hq⟩ := hq
    refine w_iald5 hX hK hH (la113 hH.2.2.1) hc dL_act_33 ?_
    refine lv_iand hx hb dL_act_34 ?_
    refine lv_if_eq (tgt := 92) hx hb dL_act_35 (by decide) (fun hc => ?_) (fun hc => ?_)
    · have hq := hq.1 hc
      refine lv_aload_n hx hb dL_act_92 rfl (lv_at hl 5 rfl) ?_
      refine lv_aload hx hb dL_act_93 (lv_at hl 7 rfl) ?_
      refine lv_aload hx hb dL_act_95 (lv_at hl 8 rfl) ?_
      obtain ⟨hp, hq⟩ := hq
      refine w_cIp hH (w_rS (As := [.ref (G.1 111), .ref (G.1 113), .ref (G.1 114)]) (rest := []) hX hK hE hH (c_L_right (la111 hH.2.2.1)  _ hp) q3_103 q3_104 q1_0 q3_105 hd_L_right.2 ⟨Nat.le_of_ble_eq_true rfl, Nat.le_of_ble_eq_true rfl⟩ ⟨rfl, rfl⟩ rfl hl.1 rfl (Nat.le_of_ble_eq_true rfl) dL_act_97 ⟨hn, Nat.mul_le_mul_left 12 hn⟩) (fun r20  H locs hpo hH => ?_)
      have hq := hq r20  hpo
      refine lv_bipush (v := 6) hx hb dL_act_100 (by decide) ?_
      refine lv_icmp_ne (tgt := 109) hx hb dL_act_102 (by decide) (fun hc => ?_) (fun hc => ?_)
      · have hq := hq.1 hc
        refine lv_iconst (v := 0) hx hb dL_act_109 (by decide) ?_
        exact s_L_act_110 hst hB C0  0 r19 (0 : Int32) _ _ _ _ hq hH (lv_sub hl [2, 5, 6, 7, 8, 0] rfl)
      · have hq := hq.2 hc
        refine lv_iconst (v := 1) hx hb dL_act_105 (by decide) ?_
        refine lv_goto (tgt := 110) hx hb dL_act_106 (by decide) ?_
        exact s_L_act_110 hst hB C0  0 r19 (1 : Int32) _ _ _ _ hq hH (lv_sub hl [2, 5, 6, 7, 8, 0] rfl)
    · have hq := hq.2 hc
      refine lv_iload hx hb dL_act_38 (lv_at hl 0 rfl) ?_
      refine lv_iconst (v := 5) hx hb dL_act_40 (by decide) ?_
      refine lv_icmp_ge (tgt := 53) hx hb dL_act_41 (by decide) (fun hc => ?_) (fun hc => ?_)
      · have hq := hq.1 hc
        refine lv_aload_n hx hb dL_act_53 rfl (lv_at hl 2 rfl) ?_
        refine lv_iload hx hb dL_act_54 (lv_at hl 0 rfl) ?_
        refine lv_iconst (v := 5) hx hb dL_act_56 (by decide) ?_
        refine lv_isub hx hb dL_act_57 ?_
        obtain ⟨hn, hq⟩ := hq
        obtain ⟨hp, hq⟩ := hq
        refine n_cI hH (w_rSW (As := [.ref (G.1 0), .int (r19 - (5 : Int32))]) (rest := []) hX hK hE hH (c_L_back hst _ _ hp) q3_157 q3_158 q1_0 q3_159 hd_L_back ⟨Nat.le_of_ble_eq_true rfl, Nat.le_of_ble_eq_true rfl⟩ ⟨rfl, rfl⟩ rfl hl.1 rfl (Nat.le_of_ble_eq_true rfl) dL_act_58 (n_fit hn (by decide))) (by decide) (fun r21 I22 H locs hpo hH => ?_)
        have hq := hq r21 I22 hpo
        exact s_L_act_61 hst hB C0  (0 + 1) r21 _ _ _ _ hq hH (lv_sub hl [2] rfl)
      · have hq := hq.2 hc
        refine lv_aload_n hx hb dL_act_44 rfl (lv_at hl 2 rfl) ?_
        refine lv_iload hx hb dL_act_45 (lv_at hl 0 rfl) ?_
        obtain ⟨hn, hq⟩ := hq
        obtain ⟨hp, hq⟩ := hq
        refine n_cI hH (w_rSW (As := [.ref (G.1 0), .int r19]) (rest := []) hX hK hE hH (c_L_turn hst _ _ hp) q3_131 q3_132 q1_0 q3_133 hd_L_turn ⟨Nat.le_of_ble_eq_true rfl, Nat.le_of_ble_eq_true rfl⟩ ⟨rfl, rfl⟩ rfl hl.1 rfl (Nat.le_of_ble_eq_true rfl) dL_act_47 (n_fit hn (by decide))) (by decide) (fun r23 I24 H locs hpo hH => ?_)
        have hq := hq r23 I24 hpo
        refine lv_goto (tgt := 61) hx hb dL_act_50 (by decide) ?_
        exact s_L_act_61 hst hB C0  (0 + 1) r23 _ _ _ _ hq hH (lv_sub hl [2] rfl)
end
