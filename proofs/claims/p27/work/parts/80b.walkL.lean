section
variable {p : Program} {l : Launch} {e : Env} {s : State} {m : MethodId} {args : Array Value} {below : List Frame} {meth : Method} {c : Code} {D : va_G} {cs : wC4} {ad : Nat → Nat} {b : Nat} {G B : wG}
abbrev rm_L_period : Room := { frames := 2, cells := 1, slots := 12 * 1, locals := 48 }
theorem hd_L_period : yL_period.cls = RL ∧ yL_period.cls ≠ "java/lang/invoke/MethodHandle" ∧ yL_period.cls ≠ "java/lang/invoke/VarHandle" ∧ (parseMethodDescriptor yL_period.desc).map (fun d => d.parameters.length) = some 3 := by decide +kernel
set_option maxRecDepth 100000 in
set_option maxHeartbeats 4000000 in
theorem s_L_period_71 {x1 : Int32} {x2 : Int32} {Q : Int32 → wI → Prop} {K12 : Nat → Int32 → wI → Prop} {K29 : Nat → Int32 → Int32 → wI → Prop} (hst : l.stackTraces = false) (hG : G.2 = 117) (hB : ∀ I t, wPo D cs b G I t → wPo D cs b B I t) (C0 : wCx p m c s args meth cL_period 6 RL (some .int) D cs ad b) (hK12 : ∀ (n : Nat) (v4 : Int32) (I : wI) (H : Heap) (locs : List Loc) (ls : Array Slot), K12 n v4 I → wH D cs b G I s H locs → lv_has ls 6 [(0, .ref (G.1 112)), (1, .int x1), (2, .int x2), (3, .ref (G.1 116)), (4, .int v4)] → W p l e rm_L_period s m args below meth c H locs n (12 * n) (MQ below (va_Qi (Q) (wPo D cs b B) (fun q => b ≤ q)) args s 1 (12 * 1) (fun q => b ≤ q)) (F0 m 12 ls [])) (hK29 : ∀ (n : Nat) (v4 : Int32) (v5 : Int32) (I : wI) (H : Heap) (locs : List Loc) (ls : Array Slot), K29 n v4 v5 I → wH D cs b G I s H locs → lv_has ls 6 [(0, .ref (G.1 112)), (1, .int x1), (2, .int x2), (3, .ref (G.1 116)), (4, .int v4), (5, .int v5)] → W p l e rm_L_period s m args below meth c H locs n (12 * n) (MQ below (va_Qi (Q) (wPo D cs b B) (fun q => b ≤ q)) args s 1 (12 * 1) (fun q => b ≤ q)) (F0 m 29 ls [])) : ∀ (n : Nat) (v4 : Int32) (v5 : Int32) (t0 : Int32) (t1 : Int32) (I : wI) (H : Heap) (locs : List Loc) (ls : Array Slot), v_L_period_71 x1 x2 Q K12 K29 n v4 v5 t0 t1 I → wH D cs b G I s H locs → lv_has ls 6 [(0, .ref (G.1 112)), (1, .int x1), (2, .int x2), (3, .ref (G.1 116)), (4, .int v4), (5, .int v5)] → W p l e rm_L_period s m args below meth c H locs n (12 * n) (MQ below (va_Qi (Q) (wPo D cs b B) (fun q => b ≤ q)) args s 1 (12 * 1) (fun q => b ≤ q)) (F0 m 71 ls [.int t0, .int t1, .ref (G.1 112), .ref (G.1 116)]) := by
  obtain ⟨hX, hr, hlk, hK, hE⟩ := id C0
  have hx := hX.1
  have hb := hX.2.1
  have hown := hX.2.2.2.1
  have hts := hX.2.2.2.2
  intro n v4 v5 t0 t1 I H locs ls hq hH hl
  unfold v_L_period_71 at hq
  obtain ⟨hn, hq⟩ := hq
  obtain ⟨hc, hq⟩ := hq
  refine lv_idiv hx hb dL_period_71 hc ?_
  refine lv_bipush (v := 10) hx hb dL_period_72 (by decide) ?_
  refine lv_irem hx hb dL_period_74 (by decide) ?_
  obtain ⟨hp, hq⟩ := hq
  refine w_cV hH (w_rS (As := [.ref (G.1 116), .ref (G.1 112), .int ((t1 / t0) - (t1 / t0) / (10 : Int32) * (10 : Int32))]) (rest := []) hX hK hE hH (c_L_doTurn (la116 (Nat.le_of_eq hG.symm)) _ _ hp) q3_87 q3_88 q1_0 q3_89 hd_L_doTurn.2 ⟨Nat.le_of_ble_eq_true rfl, Nat.le_of_ble_eq_true rfl⟩ ⟨rfl, rfl⟩ rfl hl.1 rfl (Nat.le_of_ble_eq_true rfl) dL_period_75 ⟨hn, Nat.mul_le_mul_left 12 hn⟩) (fun  I1 H locs hpo hH => ?_)
  have hq := hq  I1 hpo
  refine lv_iinc (v := (v5 + (-1 : Int32))) (lv' := [(5, .int (v5 + (-1 : Int32))), (0, .ref (G.1 112)), (1, .int x1), (2, .int x2), (3, .ref (G.1 116)), (4, .int v4)]) hx hb dL_period_78 hl (k := 5) rfl rfl (by decide) rfl (fun ls hl => ?_)
  refine lv_goto (tgt := 29) hx hb dL_period_81 (by decide) ?_
  exact hK29 n v4 (v5 + (-1 : Int32)) _ _ _ _ hq hH (lv_sub hl [1, 2, 3, 4, 5, 0] rfl)
set_option maxRecDepth 100000 in
set_option maxHeartbeats 4000000 in
theorem s_L_period_29 {x1 : Int32} {x2 : Int32} {Q : Int32 → wI → Prop} {K12 : Nat → Int32 → wI → Prop} (hst : l.stackTraces = false) (hG : G.2 = 117) (hB : ∀ I t, wPo D cs b G I t → wPo D cs b B I t) (C0 : wCx p m c s args meth cL_period 6 RL (some .int) D cs ad b) (hK12 : ∀ (n : Nat) (v4 : Int32) (I : wI) (H : Heap) (locs : List Loc) (ls : Array Slot), K12 n v4 I → wH D cs b G I s H locs → lv_has ls 6 [(0, .ref (G.1 112)), (1, .int x1), (2, .int x2), (3, .ref (G.1 116)), (4, .int v4)] → W p l e rm_L_period s m args below meth c H locs n (12 * n) (MQ below (va_Qi (Q) (wPo D cs b B) (fun q => b ≤ q)) args s 1 (12 * 1) (fun q => b ≤ q)) (F0 m 12 ls [])) : ∀ (f : Nat) (n : Nat) (v4 : Int32) (v5 : Int32) (I : wI) (H : Heap) (locs : List Loc) (ls : Array Slot), v_L_period_29 x1 x2 Q K12 f n v4 v5 I → wH D cs b G I s H locs → lv_has ls 6 [(0, .ref (G.1 112)), (1, .int x1), (2, .int x2), (3, .ref (G.1 116)), (4, .int v4), (5, .int v5)] → W p l e rm_L_period s m args below meth c H locs n (12 * n) (MQ below (va_Qi (Q) (wPo D cs b B) (fun q => b ≤ q)) args s 1 (12 * 1) (fun q => b ≤ q)) (F0 m 29 ls []) := by
  obtain ⟨hX, hr, hlk, hK, hE⟩ := id C0
  have hx := hX.1
  have hb := hX.2.1
  have hown := hX.2.2.2.1
  have hts := hX.2.2.2.2
  intro f
  induction f with
  | zero =>
    intro n v4 v5 I H locs ls hq
    exact hq.elim
  | succ f hK29 =>
    intro n v4 v5 I H locs ls hq hH hl
    have hq : g_L_period_29 x1 x2 Q K12 (v_L_period_29 x1 x2 Q K12 f) n v4 v5 I := hq
    unfold g_L_period_29 at hq
    obtain ⟨hn, hq⟩ := hq
    refine lv_iload hx hb dL_period_29 (lv_at hl 5 rfl) ?_
    refine lv_if_lt (tgt := 84) hx hb dL_period_31 (by decide) (fun hc => ?_) (fun hc => ?_)
    · have hq := hq.1 hc
      refine lv_iinc (v := (v4 + (1 : Int32))) (lv' := [(4, .int (v4 + (1 : Int32))), (0, .ref (G.1 112)), (1, .int x1), (2, .int x2), (3, .ref (G.1 116)), (5, .int v5)]) hx hb dL_period_84 hl (k := 4) rfl rfl (by decide) rfl (fun ls hl => ?_)
      refine lv_goto (tgt := 12) hx hb dL_period_87 (by decide) ?_
      exact hK12 n (v4 + (1 : Int32)) _ _ _ _ hq hH (lv_sub hl [1, 2, 3, 4, 0] rfl)
    · have hq := hq.2 hc
      refine lv_aload_n hx hb dL_period_34 rfl (lv_at hl 3 rfl) ?_
      refine lv_aload_n hx hb dL_period_35 rfl (lv_at hl 0 rfl) ?_
      refine lv_iload_n hx hb dL_period_36 rfl (lv_at hl 1 rfl) ?_
      refine lv_iload hx hb dL_period_37 (lv_at hl 5 rfl) ?_
      refine lv_if_ne (tgt := 46) hx hb dL_period_39 (by decide) (fun hc => ?_) (fun hc => ?_)
      · have hq := hq.1 hc
        refine lv_iload hx hb dL_period_46 (lv_at hl 5 rfl) ?_
        refine lv_iconst (v := 1) hx hb dL_period_48 (by decide) ?_
        refine lv_icmp_ne (tgt := 57) hx hb dL_period_49 (by decide) (fun hc => ?_) (fun hc => ?_)
        · have hq := hq.1 hc
          refine lv_iload hx hb dL_period_57 (lv_at hl 5 rfl) ?_
          refine lv_iconst (v := 2) hx hb dL_period_59 (by decide) ?_
          refine lv_icmp_ne (tgt := 68) hx hb dL_period_60 (by decide) (fun hc => ?_) (fun hc => ?_)
          · have hq := hq.1 hc
            refine lv_sipush (v := 1000) hx hb dL_period_68 (by decide) ?_
            exact s_L_period_71 hst hG hB C0 hK12 hK29 n v4 v5 (1000 : Int32) x1 _ _ _ _ hq hH (lv_sub hl [0, 1, 2, 3, 4, 5] rfl)
          · have hq := hq.2 hc
            refine lv_bipush (v := 100) hx hb dL_period_63 (by decide) ?_
            refine lv_goto (tgt := 71) hx hb dL_period_65 (by decide) ?_
            exact s_L_period_71 hst hG hB C0 hK12 hK29 n v4 v5 (100 : Int32) x1 _ _ _ _ hq hH (lv_sub hl [0, 1, 2, 3, 4, 5] rfl)
        · have hq := hq.2 hc
          refine lv_bipush (v := 10) hx hb dL_period_52 (by decide) ?_
          refine lv_goto (tgt := 71) hx hb dL_period_54 (by decide) ?_
          exact s_L_period_71 hst hG hB C0 hK12 hK29 n v4 v5 (10 : Int32) x1 _ _ _ _ hq hH (lv_sub hl [0, 1, 2, 3, 4, 5] rfl)
      · have hq := hq.2 hc
        refine lv_iconst (v := 1) hx hb dL_period_42 (by decide) ?_
        refine lv_goto (tgt := 71) hx hb dL_period_43 (by decide) ?_
        exact s_L_period_71 hst hG hB C0 hK12 hK29 n v4 v5 (1 : Int32) x1 _ _ _ _ hq hH (lv_sub hl [0, 1, 2, 3, 4, 5] rfl)
set_option maxRecDepth 100000 in
set_option maxHeartbeats 4000000 in
theorem s_L_period_24 {x1 : Int32} {x2 : Int32} {Q : Int32 → wI → Prop} {K12 : Nat → Int32 → wI → Prop} (hst : l.stackTraces = false) (hG : G.2 = 117) (hB : ∀ I t, wPo D cs b G I t → wPo D cs b B I t) (C0 : wCx p m c s args meth cL_period 6 RL (some .int) D cs ad b) (hK12 : ∀ (n : Nat) (v4 : Int32) (I : wI) (H : Heap) (locs : List Loc) (ls : Array Slot), K12 n v4 I → wH D cs b G I s H locs → lv_has ls 6 [(0, .ref (G.1 112)), (1, .int x1), (2, .int x2), (3, .ref (G.1 116)), (4, .int v4)] → W p l e rm_L_period s m args below meth c H locs n (12 * n) (MQ below (va_Qi (Q) (wPo D cs b B) (fun q => b ≤ q)) args s 1 (12 * 1) (fun q => b ≤ q)) (F0 m 12 ls [])) : ∀ (n : Nat) (v4 : Int32) (I : wI) (H : Heap) (locs : List Loc) (ls : Array Slot), v_L_period_24 x1 x2 Q K12 n v4 I → wH D cs b G I s H locs → lv_has ls 6 [(0, .ref (G.1 112)), (1, .int x1), (2, .int x2), (3, .ref (G.1 116)), (4, .int v4)] → W p l e rm_L_period s m args below meth c H locs n (12 * n) (MQ below (va_Qi (Q) (wPo D cs b B) (fun q => b ≤ q)) args s 1 (12 * 1) (fun q => b ≤ q)) (F0 m 24 ls []) := by
  obtain ⟨hX, hr, hlk, hK, hE⟩ := id C0
  have hx := hX.1
  have hb := hX.2.1
  have hown := hX.2.2.2.1
  have hts := hX.2.2.2.2
  intro n v4 I H locs ls hq hH hl
  unfold v_L_period_24 at hq
  obtain ⟨hn, hq⟩ := hq
  refine lv_iload_n hx hb dL_period_24 rfl (lv_at hl 2 rfl) ?_
  refine lv_iconst (v := 1) hx hb dL_period_25 (by decide) ?_
  refine lv_isub hx hb dL_period_26 ?_
  refine lv_istore (lv' := [(5, .int (x2 - (1 : Int32))), (0, .ref (G.1 112)), (1, .int x1), (2, .int x2), (3, .ref (G.1 116)), (4, .int v4)]) hx hb dL_period_27 hl (by decide) rfl (fun ls hl => ?_)
  obtain ⟨f, hq⟩ := hq
  exact s_L_period_29 hst hG hB C0 hK12 f n v4 (x2 - (1 : Int32)) _ _ _ _ hq hH (lv_sub hl [1, 2, 3, 4, 5, 0] rfl)
set_option maxRecDepth 100000 in
set_option maxHeartbeats 4000000 in
theorem s_L_period_12 {x1 : Int32} {x2 : Int32} {Q : Int32 → wI → Prop} (hst : l.stackTraces = false) (hG : G.2 = 117) (hB : ∀ I t, wPo D cs b G I t → wPo D cs b B I t) (C0 : wCx p m c s args meth cL_period 6 RL (some .int) D cs ad b) : ∀ (f : Nat) (n : Nat) (v4 : Int32) (I : wI) (H : Heap) (locs : List Loc) (ls : Array Slot), v_L_period_12 x1 x2 Q f n v4 I → wH D cs b G I s H locs → lv_has ls 6 [(0, .ref (G.1 112)), (1, .int x1), (2, .int x2), (3, .ref (G.1 116)), (4, .int v4)] → W p l e rm_L_period s m args below meth c H locs n (12 * n) (MQ below (va_Qi (Q) (wPo D cs b B) (fun q => b ≤ q)) args s 1 (12 * 1) (fun q => b ≤ q)) (F0 m 12 ls []) := by
  obtain ⟨hX, hr, hlk, hK, hE⟩ := id C0
  have hx := hX.1
  have hb := hX.2.1
  have hown := hX.2.2.2.1
  have hts := hX.2.2.2.2
  intro f
  induction f with
  | zero =>
    intro n v4 I H locs ls hq
    exact hq.elim
  | succ f hK12 =>
    intro n v4 I H locs ls hq hH hl
    have hq : g_L_period_12 x1 x2 Q (v_L_period_12 x1 x2 Q f) n v4 I := hq
    unfold g_L_period_12 at hq
    obtain ⟨hn, hq⟩ := hq
    refine lv_iload hx hb dL_period_12 (lv_at hl 4 rfl) ?_
    refine lv_if_eq (tgt := 24) hx hb dL_period_14 (by decide) (fun hc => ?_) (fun hc => ?_)
    · have hq := hq.1 hc
      exact s_L_period_24 hst hG hB C0 hK12 n v4 _ _ _ _ hq hH (lv_sub hl [0, 1, 2, 3, 4] rfl)
    · have hq := hq.2 hc
      refine lv_aload_n hx hb dL_period_17 rfl (lv_at hl 3 rfl) ?_
      obtain ⟨hp, hq⟩ := hq
      refine w_cIp hH (w_rS (As := [.ref (G.1 116)]) (rest := []) hX hK hE hH (c_L_moved (la116 (Nat.le_of_eq hG.symm))  _ hp) q3_84 q3_85 q1_0 q3_86 hd_L_moved.2 ⟨Nat.le_of_ble_eq_true rfl, Nat.le_of_ble_eq_true rfl⟩ ⟨rfl, rfl⟩ rfl hl.1 rfl (Nat.le_of_ble_eq_true rfl) dL_period_18 ⟨hn, Nat.mul_le_mul_left 12 hn⟩) (fun r1  H locs hpo hH => ?_)
      have hq := hq r1  hpo
      refine lv_if_eq (tgt := 90) hx hb dL_period_21 (by decide) (fun hc => ?_) (fun hc => ?_)
      · have hq := hq.1 hc
        refine lv_iload hx hb dL_period_90 (lv_at hl 4 rfl) ?_
        refine W.widen (k := 1) (n := 12 * 1) hn (Nat.mul_le_mul_left 12 hn) ?_
        exact w_eIB hB hX hr hlk hH hq dL_period_92
      · have hq := hq.2 hc
        exact s_L_period_24 hst hG hB C0 hK12 n v4 _ _ _ _ hq hH (lv_sub hl [0, 1, 2, 3, 4] rfl)
set_option maxRecDepth 100000 in
set_option maxHeartbeats 4000000 in
theorem c_L_period {l : Launch} {D : va_G} {cs : wC4} {ad : Nat → Nat} {b : Nat} {B : wG} (hst : l.stackTraces = false) (hG0 : B.2 = 116) (x1 : Int32) (x2 : Int32) (I : wI) (hp : pre_L_period x1 x2 I) : Met l yL_period (ws_ yL_period cL_period 6 (some .int)) rm_L_period (va_Pc [.ref (B.1 112), .int x1, .int x2] (wPr D cs ad b B I)) (va_Qi (fun r I' => post_L_period x1 x2 I r I') (wPo D cs b B) (fun q => b ≤ q)) 1 (12 * 1) (fun q => b ≤ q) := by
  have hq := vc_L_period x1 x2 I hp
  refine w_met (by decide) (Nat.le_of_ble_eq_true rfl) ?_
  intro p e s m below meth c hX hr hlk hK hE hH ls hl
  have C0 : wCx p m c s _ meth cL_period 6 RL (some .int) D cs ad b := ⟨hX, hr, hlk, hK, hE⟩
  have hX : CallFix p m c cL_period 6 s _ lw_all RL := hX
  have hx := hX.1
  have hb := hX.2.1
  have hown := hX.2.2.2.1
  have hts := hX.2.2.2.2
  have hl : lv_has ls 6 [(0, .ref (B.1 112)), (1, .int x1), (2, .int x2)] := hl
  obtain ⟨G, hG, hA, hsz⟩ := n_more B s.heap.size 116
  have hB : ∀ I t, wPo D cs b G I t → wPo D cs b B I t := n_back (by decide) hG0 hG hA
  have hH : wH D cs b (G.1, 116) I s s.heap [] := n_fore (by decide) hG0 hA hH
  rw [hA 112 (by decide)] at hl
  have hn : 0 ≤ 1 := Nat.zero_le _
  refine w_n0 ?_
  have hl : lv_has ls 6 [(0, .ref (G.1 112)), (1, .int x1), (2, .int x2)] := hl
  unfold v_L_period at hq
  refine lv_bipush (v := 12) hx hb dL_period_0 (by decide) ?_
  obtain ⟨hn, hq⟩ := hq
  refine n_newa (N := 116) hX hK hH hG hsz rfl rfl q1_42 ⟨hn, Nat.mul_le_mul_left 12 hn⟩ dL_period_2 (fun I1 H hI hH => ?_)
  have hq := hq I1 hI
  refine lv_astore_n (lv' := [(3, .ref (G.1 116)), (0, .ref (G.1 112)), (1, .int x1), (2, .int x2)]) hx hb dL_period_4 rfl hl (by decide) rfl (fun ls hl => ?_)
  refine lv_aload_n hx hb dL_period_5 rfl (lv_at hl 0 rfl) ?_
  obtain ⟨hp, hq⟩ := hq
  refine w_cV hH (w_rS (As := [.ref (G.1 116)]) (rest := []) hX hK hE hH (c_L_first (la116 (Nat.le_of_eq hG.symm))  _ hp) q3_75 q3_76 q1_0 q3_77 hd_L_first.2 ⟨Nat.le_of_ble_eq_true rfl, Nat.le_of_ble_eq_true rfl⟩ ⟨rfl, rfl⟩ rfl hl.1 rfl (Nat.le_of_ble_eq_true rfl) dL_period_6 ⟨hn, Nat.mul_le_mul_left 12 hn⟩) (fun  I2 H locs hpo hH => ?_)
  have hq := hq  I2 hpo
  refine lv_iconst (v := 0) hx hb dL_period_9 (by decide) ?_
  refine lv_istore (lv' := [(4, .int (0 : Int32)), (3, .ref (G.1 116)), (0, .ref (G.1 112)), (1, .int x1), (2, .int x2)]) hx hb dL_period_10 hl (by decide) rfl (fun ls hl => ?_)
  obtain ⟨f, hq⟩ := hq
  exact s_L_period_12 hst hG hB C0  f 1 (0 : Int32) _ _ _ _ hq hH (lv_sub hl [2, 3, 4, 1, 0] rfl)
abbrev rm_L_areKeys : Room := { frames := 10, cells := 31, slots := 12 * 31, locals := 163 }
theorem hd_L_areKeys : yL_areKeys.cls = RL ∧ yL_areKeys.cls ≠ "java/lang/invoke/MethodHandle" ∧ yL_areKeys.cls ≠ "java/lang/invoke/VarHandle" ∧ (parseMethodDescriptor yL_areKeys.desc).map (fun d => d.parameters.length) = some 3 := by decide +kernel
set_option maxRecDepth 100000 in
set_option maxHeartbeats 4000000 in
theorem s_L_areKeys_406 {Q : Int32 → wI → Prop} (hst : l.stackTraces = false) (hG : G.2 = 116) (hB : ∀ I t, wPo D cs b G I t → wPo D cs b B I t) (C0 : wCx p m c s args meth cL_areKeys 14 RL (some .boolean) D cs ad b) : ∀ (n : Nat) (t0 : Int32) (I : wI) (H : Heap) (locs : List Loc) (ls : Array Slot), v_L_areKeys_406 Q n t0 I → wH D cs b G I s H locs → lv_has ls 14 [] → W p l e rm_L_areKeys s m args below meth c H locs n (12 * n) (MQ below (va_Qi (Q) (wPo D cs b B) (fun q => b ≤ q)) args s 31 (12 * 31) (fun q => b ≤ q)) (F0 m 406 ls [.int t0]) := by
  obtain ⟨hX, hr, hlk, hK, hE⟩ := id C0
  have hx := hX.1
  have hb := hX.2.1
  have hown := hX.2.2.2.1
  have hts := hX.2.2.2.2
  intro n t0 I H locs ls hq hH hl
  unfold v_L_areKeys_406 at hq
  obtain ⟨hn, hq⟩ := hq
  obtain ⟨hz, hq⟩ := hq
  refine W.widen (k := 31) (n := 12 * 31) hn (Nat.mul_le_mul_left 12 hn) ?_
  exact w_eZB hB hz hX hr hlk hH hq dL_areKeys_406
set_option maxRecDepth 100000 in
set_option maxHeartbeats 4000000 in
theorem s_L_areKeys_405 {Q : Int32 → wI → Prop} (hst : l.stackTraces = false) (hG : G.2 = 116) (hB : ∀ I t, wPo D cs b G I t → wPo D cs b B I t) (C0 : wCx p m c s args meth cL_areKeys 14 RL (some .boolean) D cs ad b) : ∀ (n : Nat) (I : wI) (H : Heap) (locs : List Loc) (ls : Array Slot), v_L_areKeys_405 Q n I → wH D cs b G I s H locs → lv_has ls 14 [] → W p l e rm_L_areKeys s m args below meth c H locs n (12 * n) (MQ below (va_Qi (Q) (wPo D cs b B) (fun q => b ≤ q)) args s 31 (12 * 31) (fun q => b ≤ q)) (F0 m 405 ls []) := by
  obtain ⟨hX, hr, hlk, hK, hE⟩ := id C0
  have hx := hX.1
  have hb := hX.2.1
  have hown := hX.2.2.2.1
  have hts := hX.2.2.2.2
  intro n I H locs ls hq hH hl
  unfold v_L_areKeys_405 at hq
  obtain ⟨hn, hq⟩ := hq
  refine lv_iconst (v := 0) hx hb dL_areKeys_405 (by decide) ?_
  exact s_L_areKeys_406 hst hG hB C0  n (0 : Int32) _ _ _ _ hq hH (lv_sub hl [] rfl)
set_option maxRecDepth 100000 in
set_option maxHeartbeats 4000000 in
theorem s_L_areKeys_370 {Q : Int32 → wI → Prop} {K18 : Nat → Int32 → Int32 → Int32 → Int32 → wI → Prop} {K162 : Nat → Int32 → Int32 → Int32 → Int32 → Int32 → wI → Prop} (hst : l.stackTraces = false) (hG : G.2 = 116) (hB : ∀ I t, wPo D cs b G I t → wPo D cs b B I t) (C0 : wCx p m c s args meth cL_areKeys 14 RL (some .boolean) D cs ad b) (hK18 : ∀ (n : Nat) (v3 : Int32) (v4 : Int32) (v5 : Int32) (v7 : Int32) (I : wI) (H : Heap) (locs : List Loc) (ls : Array Slot), K18 n v3 v4 v5 v7 I → wH D cs b G I s H locs → lv_has ls 14 [(0, .ref (G.1 0)), (1, .ref (G.1 112)), (2, .ref (G.1 113)), (3, .int v3), (4, .int v4), (5, .int v5), (6, .ref (G.1 115)), (7, .int v7)] → W p l e rm_L_areKeys s m args below meth c H locs n (12 * n) (MQ below (va_Qi (Q) (wPo D cs b B) (fun q => b ≤ q)) args s 31 (12 * 31) (fun q => b ≤ q)) (F0 m 18 ls [])) (hK162 : ∀ (n : Nat) (v3 : Int32) (v4 : Int32) (v5 : Int32) (v7 : Int32) (v10 : Int32) (I : wI) (H : Heap) (locs : List Loc) (ls : Array Slot), K162 n v3 v4 v5 v7 v10 I → wH D cs b G I s H locs → lv_has ls 14 [(0, .ref (G.1 0)), (1, .ref (G.1 112)), (2, .ref (G.1 113)), (3, .int v3), (4, .int v4), (5, .int v5), (6, .ref (G.1 115)), (7, .int v7), (10, .int v10)] → W p l e rm_L_areKeys s m args below meth c H locs n (12 * n) (MQ below (va_Qi (Q) (wPo D cs b B) (fun q => b ≤ q)) args s 31 (12 * 31) (fun q => b ≤ q)) (F0 m 162 ls [])) : ∀ (n : Nat) (v3 : Int32) (v4 : Int32) (v5 : Int32) (v7 : Int32) (v10 : Int32) (I : wI) (H : Heap) (locs : List Loc) (ls : Array Slot), v_L_areKeys_370 Q K18 K162 n v3 v4 v5 v7 v10 I → wH D cs b G I s H locs → lv_has ls 14 [(0, .ref (G.1 0)), (1, .ref (G.1 112)), (2, .ref (G.1 113)), (3, .int v3), (4, .int v4), (5, .int v5), (6, .ref (G.1 115)), (7, .int v7), (10, .int v10)] → W p l e rm_L_areKeys s m args below meth c H locs n (12 * n) (MQ below (va_Qi (Q) (wPo D cs b B) (fun q => b ≤ q)) args s 31 (12 * 31) (fun q => b ≤ q)) (F0 m 370 ls []) := by
  obtain ⟨hX, hr, hlk, hK, hE⟩ := id C0
  have hx := hX.1
  have hb := hX.2.1
  have hown := hX.2.2.2.1
  have hts := hX.2.2.2.2
  intro n v3 v4 v5 v7 v10 I H locs ls hq hH hl
  unfold v_L_areKeys_370 at hq
  obtain ⟨hn, hq⟩ := hq
  refine lv_iinc (v := (v10 + (1 : Int32))) (lv' := [(10, .int (v10 + (1 : Int32))), (0, .ref (G.1 0)), (1, .ref (G.1 112)), (2, .ref (G.1 113)), (3, .int v3), (4, .int v4), (5, .int v5), (6, .ref (G.1 115)), (7, .int v7)]) hx hb dL_areKeys_370 hl (k := 8) rfl rfl (by decide) rfl (fun ls hl => ?_)
  refine lv_goto (tgt := 162) hx hb dL_areKeys_373 (by decide) ?_
  exact hK162 n v3 v4 v5 v7 (v10 + (1 : Int32)) _ _ _ _ hq hH (lv_sub hl [1, 2, 3, 4, 5, 6, 7, 8, 0] rfl)
set_option maxRecDepth 100000 in
set_option maxHeartbeats 4000000 in
theorem s_L_areKeys_333 {Q : Int32 → wI → Prop} (hst : l.stackTraces = false) (hG : G.2 = 116) (hB : ∀ I t, wPo D cs b G I t → wPo D cs b B I t) (C0 : wCx p m c s args meth cL_areKeys 14 RL (some .boolean) D cs ad b) : ∀ (n : Nat) (I : wI) (H : Heap) (locs : List Loc) (ls : Array Slot), v_L_areKeys_333 Q n I → wH D cs b G I s H locs → lv_has ls 14 [] → W p l e rm_L_areKeys s m args below meth c H locs n (12 * n) (MQ below (va_Qi (Q) (wPo D cs b B) (fun q => b ≤ q)) args s 31 (12 * 31) (fun q => b ≤ q)) (F0 m 333 ls []) := by
  obtain ⟨hX, hr, hlk, hK, hE⟩ := id C0
  have hx := hX.1
  have hb := hX.2.1
  have hown := hX.2.2.2.1
  have hts := hX.2.2.2.2
  intro n I H locs ls hq hH hl
  unfold v_L_areKeys_333 at hq
  obtain ⟨hn, hq⟩ := hq
  refine lv_iconst (v := 0) hx hb dL_areKeys_333 (by decide) ?_
  refine W.widen (k := 31) (n := 12 * 31) hn (Nat.mul_le_mul_left 12 hn) ?_
  exact w_eZB hB (by decide) hX hr hlk hH hq dL_areKeys_334
set_option maxRecDepth 100000 in
set_option maxHeartbeats 4000000 in
theorem s_L_areKeys_330 {Q : Int32 → wI → Prop} {K18 : Nat → Int32 → Int32 → Int32 → Int32 → wI → Prop} {K162 : Nat → Int32 → Int32 → Int32 → Int32 → Int32 → wI → Prop} (hst : l.stackTraces = false) (hG : G.2 = 116) (hB : ∀ I t, wPo D cs b G I t → wPo D cs b B I t) (C0 : wCx p m c s args meth cL_areKeys 14 RL (some .boolean) D cs ad b) (hK18 : ∀ (n : Nat) (v3 : Int32) (v4 : Int32) (v5 : Int32) (v7 : Int32) (I : wI) (H : Heap) (locs : List Loc) (ls : Array Slot), K18 n v3 v4 v5 v7 I → wH D cs b G I s H locs → lv_has ls 14 [(0, .ref (G.1 0)), (1, .ref (G.1 112)), (2, .ref (G.1 113)), (3, .int v3), (4, .int v4), (5, .int v5), (6, .ref (G.1 115)), (7, .int v7)] → W p l e rm_L_areKeys s m args below meth c H locs n (12 * n) (MQ below (va_Qi (Q) (wPo D cs b B) (fun q => b ≤ q)) args s 31 (12 * 31) (fun q => b ≤ q)) (F0 m 18 ls [])) (hK162 : ∀ (n : Nat) (v3 : Int32) (v4 : Int32) (v5 : Int32) (v7 : Int32) (v10 : Int32) (I : wI) (H : Heap) (locs : List Loc) (ls : Array Slot), K162 n v3 v4 v5 v7 v10 I → wH D cs b G I s H locs → lv_has ls 14 [(0, .ref (G.1 0)), (1, .ref (G.1 112)), (2, .ref (G.1 113)), (3, .int v3), (4, .int v4), (5, .int v5), (6, .ref (G.1 115)), (7, .int v7), (10, .int v10)] → W p l e rm_L_areKeys s m args below meth c H locs n (12 * n) (MQ below (va_Qi (Q) (wPo D cs b B) (fun q => b ≤ q)) args s 31 (12 * 31) (fun q => b ≤ q)) (F0 m 162 ls [])) : ∀ (n : Nat) (v3 : Int32) (v4 : Int32) (v5 : Int32) (v7 : Int32) (v10 : Int32) (v13 : Int32) (t0 : Int32) (t1 : Int32) (I : wI) (H : Heap) (locs : List Loc) (ls : Array Slot), v_L_areKeys_330 Q K18 K162 n v3 v4 v5 v7 v10 v13 t0 t1 I → wH D cs b G I s H locs → lv_has ls 14 [(0, .ref (G.1 0)), (1, .ref (G.1 112)), (2, .ref (G.1 113)), (3, .int v3), (4, .int v4), (5, .int v5), (6, .ref (G.1 115)), (7, .int v7), (10, .int v10), (13, .int v13)] → W p l e rm_L_areKeys s m args below meth c H locs n (12 * n) (MQ below (va_Qi (Q) (wPo D cs b B) (fun q => b ≤ q)) args s 31 (12 * 31) (fun q => b ≤ q)) (F0 m 330 ls [.int t0, .int t1]) := by
  obtain ⟨hX, hr, hlk, hK, hE⟩ := id C0
  have hx := hX.1
  have hb := hX.2.1
  have hown := hX.2.2.2.1
  have hts := hX.2.2.2.2
  intro n v3 v4 v5 v7 v10 v13 t0 t1 I H locs ls hq hH hl
  unfold v_L_areKeys_330 at hq
  obtain ⟨hn, hq⟩ := hq
  refine lv_icmp_eq (tgt := 335) hx hb dL_areKeys_330 (by decide) (fun hc => ?_) (fun hc => ?_)
  · have hq := hq.1 hc
    refine lv_iload hx hb dL_areKeys_335 (lv_at hl 7 rfl) ?_
    refine lv_iload hx hb dL_areKeys_337 (lv_at hl 8 rfl) ?_
    refine lv_icmp_ge (tgt := 370) hx hb dL_areKeys_339 (by decide) (fun hc => ?_) (fun hc => ?_)
    · have hq := hq.1 hc
      exact s_L_areKeys_370 hst hG hB C0 hK18 hK162 n v3 v4 v5 v7 v10 _ _ _ _ hq hH (lv_sub hl [0, 1, 2, 3, 4, 5, 6, 7, 8] rfl)
    · have hq := hq.2 hc
      refine lv_iload hx hb dL_areKeys_342 (lv_at hl 9 rfl) ?_
      obtain ⟨hp, hq⟩ := hq
      refine w_cIp hH (w_rS (As := [.int v13]) (rest := []) hX hK hE hH (c_L_ones  _ _ hp) q3_93 q3_94 q1_0 q3_95 hd_L_ones.2 ⟨Nat.le_of_ble_eq_true rfl, Nat.le_of_ble_eq_true rfl⟩ ⟨rfl, rfl⟩ rfl hl.1 rfl (Nat.le_of_ble_eq_true rfl) dL_areKeys_344 ⟨hn, Nat.mul_le_mul_left 12 hn⟩) (fun r1  H locs hpo hH => ?_)
      have hq := hq r1  hpo
      refine lv_iload hx hb dL_areKeys_347 (lv_at hl 4 rfl) ?_
      refine lv_icmp_lt (tgt := 355) hx hb dL_areKeys_349 (by decide) (fun hc => ?_) (fun hc => ?_)
      · have hq := hq.1 hc
        refine lv_iload hx hb dL_areKeys_355 (lv_at hl 9 rfl) ?_
        obtain ⟨hp, hq⟩ := hq
        refine w_cIp hH (w_rS (As := [.int v13]) (rest := []) hX hK hE hH (c_L_ones  _ _ hp) q3_93 q3_94 q1_0 q3_95 hd_L_ones.2 ⟨Nat.le_of_ble_eq_true rfl, Nat.le_of_ble_eq_true rfl⟩ ⟨rfl, rfl⟩ rfl hl.1 rfl (Nat.le_of_ble_eq_true rfl) dL_areKeys_357 ⟨hn, Nat.mul_le_mul_left 12 hn⟩) (fun r2  H locs hpo hH => ?_)
        have hq := hq r2  hpo
        refine lv_istore (lv' := [(4, .int r2), (0, .ref (G.1 0)), (1, .ref (G.1 112)), (2, .ref (G.1 113)), (3, .int v3), (5, .int v5), (6, .ref (G.1 115)), (7, .int v7), (10, .int v10), (13, .int v13)]) hx hb dL_areKeys_360 hl (by decide) rfl (fun ls hl => ?_)
        refine lv_iconst (v := 5) hx hb dL_areKeys_362 (by decide) ?_
        refine lv_iload hx hb dL_areKeys_363 (lv_at hl 7 rfl) ?_
        refine lv_imul hx hb dL_areKeys_365 ?_
        refine lv_iload hx hb dL_areKeys_366 (lv_at hl 8 rfl) ?_
        refine lv_iadd hx hb dL_areKeys_368 ?_
        refine lv_istore_n (lv' := [(3, .int (((5 : Int32) * v7) + v10)), (4, .int r2), (0, .ref (G.1 0)), (1, .ref (G.1 112)), (2, .ref (G.1 113)), (5, .int v5), (6, .ref (G.1 115)), (7, .int v7), (10, .int v10), (13, .int v13)]) hx hb dL_areKeys_369 rfl hl (by decide) rfl (fun ls hl => ?_)
        exact s_L_areKeys_370 hst hG hB C0 hK18 hK162 n (((5 : Int32) * v7) + v10) r2 v5 v7 v10 _ _ _ _ hq hH (lv_sub hl [2, 3, 4, 0, 1, 5, 6, 7, 8] rfl)
      · have hq := hq.2 hc
        refine lv_goto (tgt := 370) hx hb dL_areKeys_352 (by decide) ?_
        exact s_L_areKeys_370 hst hG hB C0 hK18 hK162 n v3 v4 v5 v7 v10 _ _ _ _ hq hH (lv_sub hl [0, 1, 2, 3, 4, 5, 6, 7, 8] rfl)
  · have hq := hq.2 hc
    exact s_L_areKeys_333 hst hG hB C0  n _ _ _ _ hq hH (lv_sub hl [] rfl)
set_option maxRecDepth 100000 in
set_option maxHeartbeats 4000000 in
theorem s_L_areKeys_162 {Q : Int32 → wI → Prop} {K18 : Nat → Int32 → Int32 → Int32 → Int32 → wI → Prop} (hst : l.stackTraces = false) (hG : G.2 = 116) (hB : ∀ I t, wPo D cs b G I t → wPo D cs b B I t) (C0 : wCx p m c s args meth cL_areKeys 14 RL (some .boolean) D cs ad b) (hK18 : ∀ (n : Nat) (v3 : Int32) (v4 : Int32) (v5 : Int32) (v7 : Int32) (I : wI) (H : Heap) (locs : List Loc) (ls : Array Slot), K18 n v3 v4 v5 v7 I → wH D cs b G I s H locs → lv_has ls 14 [(0, .ref (G.1 0)), (1, .ref (G.1 112)), (2, .ref (G.1 113)), (3, .int v3), (4, .int v4), (5, .int v5), (6, .ref (G.1 115)), (7, .int v7)] → W p l e rm_L_areKeys s m args below meth c H locs n (12 * n) (MQ below (va_Qi (Q) (wPo D cs b B) (fun q => b ≤ q)) args s 31 (12 * 31) (fun q => b ≤ q)) (F0 m 18 ls [])) : ∀ (f : Nat) (n : Nat) (v3 : Int32) (v4 : Int32) (v5 : Int32) (v7 : Int32) (v10 : Int32) (I : wI) (H : Heap) (locs : List Loc) (ls : Array Slot), v_L_areKeys_162 Q K18 f n v3 v4 v5 v7 v10 I → wH D cs b G I s H locs → lv_has ls 14 [(0, .ref (G.1 0)), (1, .ref (G.1 112)), (2, .ref (G.1 113)), (3, .int v3), (4, .int v4), (5, .int v5), (6, .ref (G.1 115)), (7, .int v7), (10, .int v10)] → W p l e rm_L_areKeys s m args below meth c H locs n (12 * n) (MQ below (va_Qi (Q) (wPo D cs b B) (fun q => b ≤ q)) args s 31 (12 * 31) (fun q => b ≤ q)) (F0 m 162 ls []) := by
  obtain ⟨hX, hr, hlk, hK, hE⟩ := id C0
  have hx := hX.1
  have hb := hX.2.1
  have hown := hX.2.2.2.1
  have hts := hX.2.2.2.2
  intro f
  induction f with
  | zero =>
    intro n v3 v4 v5 v7 v10 I H locs ls hq
    exact hq.elim
  | succ f hK162 =>
    intro n v3 v4 v5 v7 v10 I H locs ls hq hH hl
    have hq : g_L_areKeys_162 Q K18 (v_L_areKeys_162 Q K18 f) n v3 v4 v5 v7 v10 I := hq
    unfold g_L_areKeys_162 at hq
    obtain ⟨hn, hq⟩ := hq
    refine lv_iload hx hb dL_areKeys_162 (lv_at hl 8 rfl) ?_
    refine lv_iconst (v := 5) hx hb dL_areKeys_164 (by decide) ?_
    refine lv_icmp_ge (tgt := 376) hx hb dL_areKeys_165 (by decide) (fun hc => ?_) (fun hc => ?_)
    · have hq := hq.1 hc
      refine lv_iinc (v := (v7 + (1 : Int32))) (lv' := [(7, .int (v7 + (1 : Int32))), (0, .ref (G.1 0)), (1, .ref (G.1 112)), (2, .ref (G.1 113)), (3, .int v3), (4, .int v4), (5, .int v5), (6, .ref (G.1 115)), (10, .int v10)]) hx hb dL_areKeys_376 hl (k := 7) rfl rfl (by decide) rfl (fun ls hl => ?_)
      refine lv_goto (tgt := 18) hx hb dL_areKeys_379 (by decide) ?_
      exact hK18 n v3 v4 v5 (v7 + (1 : Int32)) _ _ _ _ hq hH (lv_sub hl [1, 2, 3, 4, 5, 6, 7, 0] rfl)
    · have hq := hq.2 hc
      refine lv_sipush (v := 1000) hx hb dL_areKeys_168 (by decide) ?_
      refine lv_iload hx hb dL_areKeys_171 (lv_at hl 7 rfl) ?_
      refine lv_imul hx hb dL_areKeys_173 ?_
      refine lv_bipush (v := 100) hx hb dL_areKeys_174 (by decide) ?_
      refine lv_iload hx hb dL_areKeys_176 (lv_at hl 8 rfl) ?_
      refine lv_imul hx hb dL_areKeys_178 ?_
      refine lv_iadd hx hb dL_areKeys_179 ?_
      refine lv_bipush (v := 10) hx hb dL_areKeys_180 (by decide) ?_
      refine lv_iconst (v := 5) hx hb dL_areKeys_182 (by decide) ?_
      refine lv_iload hx hb dL_areKeys_183 (lv_at hl 7 rfl) ?_
      refine lv_iadd hx hb dL_areKeys_185 ?_
      refine lv_imul hx hb dL_areKeys_186 ?_
      refine lv_iadd hx hb dL_areKeys_187 ?_
      refine lv_iconst (v := 5) hx hb dL_areKeys_188 (by decide) ?_
      refine lv_iadd hx hb dL_areKeys_189 ?_
      refine lv_iload hx hb dL_areKeys_190 (lv_at hl 8 rfl) ?_
      refine lv_iadd hx hb dL_areKeys_192 ?_
      refine lv_istore (lv' := [(11, .int ((((((1000 : Int32) * v7) + ((100 : Int32) * v10)) + ((10 : Int32) * ((5 : Int32) + v7))) + (5 : Int32)) + v10)), (0, .ref (G.1 0)), (1, .ref (G.1 112)), (2, .ref (G.1 113)), (3, .int v3), (4, .int v4), (5, .int v5), (6, .ref (G.1 115)), (7, .int v7), (10, .int v10)]) hx hb dL_areKeys_193 hl (by decide) rfl (fun ls hl => ?_)
      refine lv_aload_n hx hb dL_areKeys_195 rfl (lv_at hl 2 rfl) ?_
      refine lv_iload hx hb dL_areKeys_196 (lv_at hl 0 rfl) ?_
      refine lv_iconst (v := 4) hx hb dL_areKeys_198 (by decide) ?_
      obtain ⟨hn, hq⟩ := hq
      obtain ⟨hp, hq⟩ := hq
      refine n_cI hH (w_rS (As := [.ref (G.1 112), .int ((((((1000 : Int32) * v7) + ((100 : Int32) * v10)) + ((10 : Int32) * ((5 : Int32) + v7))) + (5 : Int32)) + v10), .int (4 : Int32)]) (rest := []) hX hK hE hH (c_L_period hst hG  _ _ _ hp) q3_81 q3_82 q1_0 q3_83 hd_L_period.2 ⟨Nat.le_of_ble_eq_true rfl, Nat.le_of_ble_eq_true rfl⟩ ⟨rfl, rfl⟩ rfl hl.1 rfl (Nat.le_of_ble_eq_true rfl) dL_areKeys_199 (n_fit hn (by decide))) (by decide) (fun r1 I2 H locs hpo hH => ?_)
      have hq := hq r1 I2 hpo
      refine lv_istore (lv' := [(12, .int r1), (11, .int ((((((1000 : Int32) * v7) + ((100 : Int32) * v10)) + ((10 : Int32) * ((5 : Int32) + v7))) + (5 : Int32)) + v10)), (0, .ref (G.1 0)), (1, .ref (G.1 112)), (2, .ref (G.1 113)), (3, .int v3), (4, .int v4), (5, .int v5), (6, .ref (G.1 115)), (7, .int v7), (10, .int v10)]) hx hb dL_areKeys_202 hl (by decide) rfl (fun ls hl => ?_)
      refine lv_aload hx hb dL_areKeys_204 (lv_at hl 8 rfl) ?_
      obtain ⟨hp, hq⟩ := hq
      refine w_cV hH (w_rS (As := [.ref (G.1 115)]) (rest := []) hX hK hE hH (c_L_first (la115 (Nat.le_of_eq hG.symm))  _ hp) q3_75 q3_76 q1_0 q3_77 hd_L_first.2 ⟨Nat.le_of_ble_eq_true rfl, Nat.le_of_ble_eq_true rfl⟩ ⟨rfl, rfl⟩ rfl hl.1 rfl (Nat.le_of_ble_eq_true rfl) dL_areKeys_206 ⟨hn, Nat.mul_le_mul_left 12 hn⟩) (fun  I3 H locs hpo hH => ?_)
      have hq := hq  I3 hpo
      refine lv_aload hx hb dL_areKeys_209 (lv_at hl 8 rfl) ?_
      refine lv_aload_n hx hb dL_areKeys_211 rfl (lv_at hl 3 rfl) ?_
      refine lv_iload hx hb dL_areKeys_212 (lv_at hl 9 rfl) ?_
      obtain ⟨hp, hq⟩ := hq
      refine w_cV hH (w_rS (As := [.ref (G.1 115), .ref (G.1 112), .int v7]) (rest := []) hX hK hE hH (c_L_doTurn (la115 (Nat.le_of_eq hG.symm)) _ _ hp) q3_87 q3_88 q1_0 q3_89 hd_L_doTurn.2 ⟨Nat.le_of_ble_eq_true rfl, Nat.le_of_ble_eq_true rfl⟩ ⟨rfl, rfl⟩ rfl hl.1 rfl (Nat.le_of_ble_eq_true rfl) dL_areKeys_214 ⟨hn, Nat.mul_le_mul_left 12 hn⟩) (fun  I4 H locs hpo hH => ?_)
      have hq := hq  I4 hpo
      refine lv_aload hx hb dL_areKeys_217 (lv_at hl 8 rfl) ?_
      refine lv_aload_n hx hb dL_areKeys_219 rfl (lv_at hl 3 rfl) ?_
      refine lv_iload hx hb dL_areKeys_220 (lv_at hl 10 rfl) ?_
      obtain ⟨hp, hq⟩ := hq
      refine w_cV hH (w_rS (As := [.ref (G.1 115), .ref (G.1 112), .int v10]) (rest := []) hX hK hE hH (c_L_doTurn (la115 (Nat.le_of_eq hG.symm)) _ _ hp) q3_87 q3_88 q1_0 q3_89 hd_L_doTurn.2 ⟨Nat.le_of_ble_eq_true rfl, Nat.le_of_ble_eq_true rfl⟩ ⟨rfl, rfl⟩ rfl hl.1 rfl (Nat.le_of_ble_eq_true rfl) dL_areKeys_222 ⟨hn, Nat.mul_le_mul_left 12 hn⟩) (fun  I5 H locs hpo hH => ?_)
      have hq := hq  I5 hpo
      refine lv_aload hx hb dL_areKeys_225 (lv_at hl 8 rfl) ?_
      refine lv_aload_n hx hb dL_areKeys_227 rfl (lv_at hl 3 rfl) ?_
      refine lv_iconst (v := 5) hx hb dL_areKeys_228 (by decide) ?_
      refine lv_iload hx hb dL_areKeys_229 (lv_at hl 9 rfl) ?_
      refine lv_iadd hx hb dL_areKeys_231 ?_
      obtain ⟨hp, hq⟩ := hq
      refine w_cV hH (w_rS (As := [.ref (G.1 115), .ref (G.1 112), .int ((5 : Int32) + v7)]) (rest := []) hX hK hE hH (c_L_doTurn (la115 (Nat.le_of_eq hG.symm)) _ _ hp) q3_87 q3_88 q1_0 q3_89 hd_L_doTurn.2 ⟨Nat.le_of_ble_eq_true rfl, Nat.le_of_ble_eq_true rfl⟩ ⟨rfl, rfl⟩ rfl hl.1 rfl (Nat.le_of_ble_eq_true rfl) dL_areKeys_232 ⟨hn, Nat.mul_le_mul_left 12 hn⟩) (fun  I6 H locs hpo hH => ?_)
      have hq := hq  I6 hpo
      refine lv_aload hx hb dL_areKeys_235 (lv_at hl 8 rfl) ?_
      refine lv_aload_n hx hb dL_areKeys_237 rfl (lv_at hl 3 rfl) ?_
      refine lv_iconst (v := 5) hx hb dL_areKeys_238 (by decide) ?_
      refine lv_iload hx hb dL_areKeys_239 (lv_at hl 10 rfl) ?_
      refine lv_iadd hx hb dL_areKeys_241 ?_
      obtain ⟨hp, hq⟩ := hq
      refine w_cV hH (w_rS (As := [.ref (G.1 115), .ref (G.1 112), .int ((5 : Int32) + v10)]) (rest := []) hX hK hE hH (c_L_doTurn (la115 (Nat.le_of_eq hG.symm)) _ _ hp) q3_87 q3_88 q1_0 q3_89 hd_L_doTurn.2 ⟨Nat.le_of_ble_eq_true rfl, Nat.le_of_ble_eq_true rfl⟩ ⟨rfl, rfl⟩ rfl hl.1 rfl (Nat.le_of_ble_eq_true rfl) dL_areKeys_242 ⟨hn, Nat.mul_le_mul_left 12 hn⟩) (fun  I7 H locs hpo hH => ?_)
      have hq := hq  I7 hpo
      refine lv_aload hx hb dL_areKeys_245 (lv_at hl 8 rfl) ?_
      obtain ⟨hp, hq⟩ := hq
      refine w_cIp hH (w_rS (As := [.ref (G.1 115)]) (rest := []) hX hK hE hH (c_L_moved (la115 (Nat.le_of_eq hG.symm))  _ hp) q3_84 q3_85 q1_0 q3_86 hd_L_moved.2 ⟨Nat.le_of_ble_eq_true rfl, Nat.le_of_ble_eq_true rfl⟩ ⟨rfl, rfl⟩ rfl hl.1 rfl (Nat.le_of_ble_eq_true rfl) dL_areKeys_247 ⟨hn, Nat.mul_le_mul_left 12 hn⟩) (fun r8  H locs hpo hH => ?_)
      have hq := hq r8  hpo
      refine lv_istore (lv' := [(13, .int r8), (12, .int r1), (11, .int ((((((1000 : Int32) * v7) + ((100 : Int32) * v10)) + ((10 : Int32) * ((5 : Int32) + v7))) + (5 : Int32)) + v10)), (0, .ref (G.1 0)), (1, .ref (G.1 112)), (2, .ref (G.1 113)), (3, .int v3), (4, .int v4), (5, .int v5), (6, .ref (G.1 115)), (7, .int v7), (10, .int v10)]) hx hb dL_areKeys_250 hl (by decide) rfl (fun ls hl => ?_)
      refine lv_aload_n hx hb dL_areKeys_252 rfl (lv_at hl 3 rfl) ?_
      refine lv_iload hx hb dL_areKeys_253 (lv_at hl 10 rfl) ?_
      refine lv_iload hx hb dL_areKeys_255 (lv_at hl 11 rfl) ?_
      refine lv_iconst (v := 0) hx hb dL_areKeys_257 (by decide) ?_
      obtain ⟨hp, hq⟩ := hq
      refine w_cI hH (w_rV (As := [.int v7, .int v10, .int (0 : Int32)]) (rest := []) hX hK hE hH (c_X5_pair  _ _ _ _ hp) ck5 sh0 q2_219 q2_220 q2_221 q1_1 q2_222 hd_X5_pair ⟨Nat.le_of_ble_eq_true rfl, Nat.le_of_ble_eq_true rfl⟩ ⟨rfl, rfl⟩ rfl hl.1 rfl (Nat.le_of_ble_eq_true rfl) dL_areKeys_258 ⟨hn, Nat.mul_le_mul_left 12 hn⟩) (fun r9 I10 H locs hpo hH => ?_)
      have hq := hq r9 I10 hpo
      refine lv_iload hx hb dL_areKeys_261 (lv_at hl 0 rfl) ?_
      refine lv_icmp_ne (tgt := 333) hx hb dL_areKeys_263 (by decide) (fun hc => ?_) (fun hc => ?_)
      · have hq := hq.1 hc
        exact s_L_areKeys_333 hst hG hB C0  (n + 1) _ _ _ _ hq hH (lv_sub hl [] rfl)
      · have hq := hq.2 hc
        refine lv_aload_n hx hb dL_areKeys_266 rfl (lv_at hl 3 rfl) ?_
        refine lv_iload hx hb dL_areKeys_267 (lv_at hl 10 rfl) ?_
        refine lv_iload hx hb dL_areKeys_269 (lv_at hl 11 rfl) ?_
        refine lv_iconst (v := 1) hx hb dL_areKeys_271 (by decide) ?_
        obtain ⟨hp, hq⟩ := hq
        refine w_cI hH (w_rV (As := [.int v7, .int v10, .int (1 : Int32)]) (rest := []) hX hK hE hH (c_X5_pair  _ _ _ _ hp) ck5 sh0 q2_219 q2_220 q2_221 q1_1 q2_222 hd_X5_pair ⟨Nat.le_of_ble_eq_true rfl, Nat.le_of_ble_eq_true rfl⟩ ⟨rfl, rfl⟩ rfl hl.1 rfl (Nat.le_of_ble_eq_true rfl) dL_areKeys_272 ⟨hn, Nat.mul_le_mul_left 12 hn⟩) (fun r11 I12 H locs hpo hH => ?_)
        have hq := hq r11 I12 hpo
        refine lv_iload hx hb dL_areKeys_275 (lv_at hl 0 rfl) ?_
        obtain ⟨hp, hq⟩ := hq
        refine w_cIp hH (w_rS (As := [.int r8]) (rest := [.int r11]) hX hK hE hH (c_L_ones  _ _ hp) q3_93 q3_94 q1_0 q3_95 hd_L_ones.2 ⟨Nat.le_of_ble_eq_true rfl, Nat.le_of_ble_eq_true rfl⟩ ⟨rfl, rfl⟩ rfl hl.1 rfl (Nat.le_of_ble_eq_true rfl) dL_areKeys_277 ⟨hn, Nat.mul_le_mul_left 12 hn⟩) (fun r13  H locs hpo hH => ?_)
        have hq := hq r13  hpo
        refine lv_icmp_ne (tgt := 333) hx hb dL_areKeys_280 (by decide) (fun hc => ?_) (fun hc => ?_)
        · have hq := hq.1 hc
          exact s_L_areKeys_333 hst hG hB C0  (n + 1) _ _ _ _ hq hH (lv_sub hl [] rfl)
        · have hq := hq.2 hc
          refine lv_aload_n hx hb dL_areKeys_283 rfl (lv_at hl 3 rfl) ?_
          refine lv_iload hx hb dL_areKeys_284 (lv_at hl 10 rfl) ?_
          refine lv_iload hx hb dL_areKeys_286 (lv_at hl 11 rfl) ?_
          refine lv_iconst (v := 2) hx hb dL_areKeys_288 (by decide) ?_
          obtain ⟨hp, hq⟩ := hq
          refine w_cI hH (w_rV (As := [.int v7, .int v10, .int (2 : Int32)]) (rest := []) hX hK hE hH (c_X5_pair  _ _ _ _ hp) ck5 sh0 q2_219 q2_220 q2_221 q1_1 q2_222 hd_X5_pair ⟨Nat.le_of_ble_eq_true rfl, Nat.le_of_ble_eq_true rfl⟩ ⟨rfl, rfl⟩ rfl hl.1 rfl (Nat.le_of_ble_eq_true rfl) dL_areKeys_289 ⟨hn, Nat.mul_le_mul_left 12 hn⟩) (fun r14 I15 H locs hpo hH => ?_)
          have hq := hq r14 I15 hpo
          refine lv_iload hx hb dL_areKeys_292 (lv_at hl 1 rfl) ?_
          refine lv_icmp_ne (tgt := 333) hx hb dL_areKeys_294 (by decide) (fun hc => ?_) (fun hc => ?_)
          · have hq := hq.1 hc
            exact s_L_areKeys_333 hst hG hB C0  (n + 1) _ _ _ _ hq hH (lv_sub hl [] rfl)
          · have hq := hq.2 hc
            refine lv_aload_n hx hb dL_areKeys_297 rfl (lv_at hl 3 rfl) ?_
            refine lv_iload hx hb dL_areKeys_298 (lv_at hl 10 rfl) ?_
            refine lv_iload hx hb dL_areKeys_300 (lv_at hl 11 rfl) ?_
            refine lv_iconst (v := 3) hx hb dL_areKeys_302 (by decide) ?_
            obtain ⟨hp, hq⟩ := hq
            refine w_cI hH (w_rV (As := [.int v7, .int v10, .int (3 : Int32)]) (rest := []) hX hK hE hH (c_X5_pair  _ _ _ _ hp) ck5 sh0 q2_219 q2_220 q2_221 q1_1 q2_222 hd_X5_pair ⟨Nat.le_of_ble_eq_true rfl, Nat.le_of_ble_eq_true rfl⟩ ⟨rfl, rfl⟩ rfl hl.1 rfl (Nat.le_of_ble_eq_true rfl) dL_areKeys_303 ⟨hn, Nat.mul_le_mul_left 12 hn⟩) (fun r16 I17 H locs hpo hH => ?_)
            have hq := hq r16 I17 hpo
            refine lv_iload hx hb dL_areKeys_306 (lv_at hl 1 rfl) ?_
            refine lv_icmp_ne (tgt := 333) hx hb dL_areKeys_308 (by decide) (fun hc => ?_) (fun hc => ?_)
            · have hq := hq.1 hc
              exact s_L_areKeys_333 hst hG hB C0  (n + 1) _ _ _ _ hq hH (lv_sub hl [] rfl)
            · have hq := hq.2 hc
              refine lv_aload_n hx hb dL_areKeys_311 rfl (lv_at hl 3 rfl) ?_
              refine lv_iload hx hb dL_areKeys_312 (lv_at hl 10 rfl) ?_
              refine lv_iload hx hb dL_areKeys_314 (lv_at hl 11 rfl) ?_
              refine lv_iconst (v := 4) hx hb dL_areKeys_316 (by decide) ?_
              obtain ⟨hp, hq⟩ := hq
              refine w_cI hH (w_rV (As := [.int v7, .int v10, .int (4 : Int32)]) (rest := []) hX hK hE hH (c_X5_pair  _ _ _ _ hp) ck5 sh0 q2_219 q2_220 q2_221 q1_1 q2_222 hd_X5_pair ⟨Nat.le_of_ble_eq_true rfl, Nat.le_of_ble_eq_true rfl⟩ ⟨rfl, rfl⟩ rfl hl.1 rfl (Nat.le_of_ble_eq_true rfl) dL_areKeys_317 ⟨hn, Nat.mul_le_mul_left 12 hn⟩) (fun r18 I19 H locs hpo hH => ?_)
              have hq := hq r18 I19 hpo
              refine lv_iload hx hb dL_areKeys_320 (lv_at hl 0 rfl) ?_
              refine lv_if_ne (tgt := 329) hx hb dL_areKeys_322 (by decide) (fun hc => ?_) (fun hc => ?_)
              · have hq := hq.1 hc
                refine lv_iconst (v := 0) hx hb dL_areKeys_329 (by decide) ?_
                exact s_L_areKeys_330 hst hG hB C0 hK18 hK162 (n + 1) v3 v4 v5 v7 v10 r8 (0 : Int32) r18 _ _ _ _ hq hH (lv_sub hl [3, 4, 5, 6, 7, 8, 9, 10, 11, 0] rfl)
              · have hq := hq.2 hc
                refine lv_iconst (v := 1) hx hb dL_areKeys_325 (by decide) ?_
                refine lv_goto (tgt := 330) hx hb dL_areKeys_326 (by decide) ?_
                exact s_L_areKeys_330 hst hG hB C0 hK18 hK162 (n + 1) v3 v4 v5 v7 v10 r8 (1 : Int32) r18 _ _ _ _ hq hH (lv_sub hl [3, 4, 5, 6, 7, 8, 9, 10, 11, 0] rfl)
set_option maxRecDepth 100000 in
set_option maxHeartbeats 4000000 in
theorem s_L_areKeys_157 {Q : Int32 → wI → Prop} (hst : l.stackTraces = false) (hG : G.2 = 116) (hB : ∀ I t, wPo D cs b G I t → wPo D cs b B I t) (C0 : wCx p m c s args meth cL_areKeys 14 RL (some .boolean) D cs ad b) : ∀ (n : Nat) (I : wI) (H : Heap) (locs : List Loc) (ls : Array Slot), v_L_areKeys_157 Q n I → wH D cs b G I s H locs → lv_has ls 14 [] → W p l e rm_L_areKeys s m args below meth c H locs n (12 * n) (MQ below (va_Qi (Q) (wPo D cs b B) (fun q => b ≤ q)) args s 31 (12 * 31) (fun q => b ≤ q)) (F0 m 157 ls []) := by
  obtain ⟨hX, hr, hlk, hK, hE⟩ := id C0
  have hx := hX.1
  have hb := hX.2.1
  have hown := hX.2.2.2.1
  have hts := hX.2.2.2.2
  intro n I H locs ls hq hH hl
  unfold v_L_areKeys_157 at hq
  obtain ⟨hn, hq⟩ := hq
  refine lv_iconst (v := 0) hx hb dL_areKeys_157 (by decide) ?_
  refine W.widen (k := 31) (n := 12 * 31) hn (Nat.mul_le_mul_left 12 hn) ?_
  exact w_eZB hB (by decide) hX hr hlk hH hq dL_areKeys_158
set_option maxRecDepth 100000 in
set_option maxHeartbeats 4000000 in
theorem s_L_areKeys_137 {Q : Int32 → wI → Prop} {K18 : Nat → Int32 → Int32 → Int32 → Int32 → wI → Prop} (hst : l.stackTraces = false) (hG : G.2 = 116) (hB : ∀ I t, wPo D cs b G I t → wPo D cs b B I t) (C0 : wCx p m c s args meth cL_areKeys 14 RL (some .boolean) D cs ad b) (hK18 : ∀ (n : Nat) (v3 : Int32) (v4 : Int32) (v5 : Int32) (v7 : Int32) (I : wI) (H : Heap) (locs : List Loc) (ls : Array Slot), K18 n v3 v4 v5 v7 I → wH D cs b G I s H locs → lv_has ls 14 [(0, .ref (G.1 0)), (1, .ref (G.1 112)), (2, .ref (G.1 113)), (3, .int v3), (4, .int v4), (5, .int v5), (6, .ref (G.1 115)), (7, .int v7)] → W p l e rm_L_areKeys s m args below meth c H locs n (12 * n) (MQ below (va_Qi (Q) (wPo D cs b B) (fun q => b ≤ q)) args s 31 (12 * 31) (fun q => b ≤ q)) (F0 m 18 ls [])) : ∀ (n : Nat) (v3 : Int32) (v4 : Int32) (v5 : Int32) (v7 : Int32) (t0 : Int32) (t1 : Int32) (I : wI) (H : Heap) (locs : List Loc) (ls : Array Slot), v_L_areKeys_137 Q K18 n v3 v4 v5 v7 t0 t1 I → wH D cs b G I s H locs → lv_has ls 14 [(0, .ref (G.1 0)), (1, .ref (G.1 112)), (2, .ref (G.1 113)), (3, .int v3), (4, .int v4), (5, .int v5), (6, .ref (G.1 115)), (7, .int v7)] → W p l e rm_L_areKeys s m args below meth c H locs n (12 * n) (MQ below (va_Qi (Q) (wPo D cs b B) (fun q => b ≤ q)) args s 31 (12 * 31) (fun q => b ≤ q)) (F0 m 137 ls [.int t0, .int t1]) := by
  obtain ⟨hX, hr, hlk, hK, hE⟩ := id C0
  have hx := hX.1
  have hb := hX.2.1
  have hown := hX.2.2.2.1
  have hts := hX.2.2.2.2
  intro n v3 v4 v5 v7 t0 t1 I H locs ls hq hH hl
  unfold v_L_areKeys_137 at hq
  obtain ⟨hn, hq⟩ := hq
  refine lv_icmp_ne (tgt := 157) hx hb dL_areKeys_137 (by decide) (fun hc => ?_) (fun hc => ?_)
  · have hq := hq.1 hc
    exact s_L_areKeys_157 hst hG hB C0  n _ _ _ _ hq hH (lv_sub hl [] rfl)
  · have hq := hq.2 hc
    refine lv_aload_n hx hb dL_areKeys_140 rfl (lv_at hl 0 rfl) ?_
    refine lv_iload hx hb dL_areKeys_141 (lv_at hl 7 rfl) ?_
    refine lv_iconst (v := 5) hx hb dL_areKeys_143 (by decide) ?_
    obtain ⟨hp, hq⟩ := hq
    refine w_cI hH (w_rV (As := [.int v7, .int (5 : Int32)]) (rest := []) hX hK hE hH (c_X5_key  _ _ _ hp) ck5 sh0 q2_137 q2_138 q2_139 q1_1 q2_140 hd_X5_key ⟨Nat.le_of_ble_eq_true rfl, Nat.le_of_ble_eq_true rfl⟩ ⟨rfl, rfl⟩ rfl hl.1 rfl (Nat.le_of_ble_eq_true rfl) dL_areKeys_144 ⟨hn, Nat.mul_le_mul_left 12 hn⟩) (fun r1 I2 H locs hpo hH => ?_)
    have hq := hq r1 I2 hpo
    refine lv_aload_n hx hb dL_areKeys_147 rfl (lv_at hl 1 rfl) ?_
    refine lv_bipush (v := 10) hx hb dL_areKeys_148 (by decide) ?_
    refine lv_iload hx hb dL_areKeys_150 (lv_at hl 7 rfl) ?_
    refine lv_iadd hx hb dL_areKeys_152 ?_
    obtain ⟨hc, hq⟩ := hq
    refine w_iald5 hX hK hH (la112 hH.2.2.1) hc dL_areKeys_153 ?_
    refine lv_icmp_eq (tgt := 159) hx hb dL_areKeys_154 (by decide) (fun hc => ?_) (fun hc => ?_)
    · have hq := hq.1 hc
      refine lv_iconst (v := 0) hx hb dL_areKeys_159 (by decide) ?_
      refine lv_istore (lv' := [(10, .int (0 : Int32)), (0, .ref (G.1 0)), (1, .ref (G.1 112)), (2, .ref (G.1 113)), (3, .int v3), (4, .int v4), (5, .int v5), (6, .ref (G.1 115)), (7, .int v7)]) hx hb dL_areKeys_160 hl (by decide) rfl (fun ls hl => ?_)
      obtain ⟨f, hq⟩ := hq
      exact s_L_areKeys_162 hst hG hB C0 hK18 f n v3 v4 v5 v7 (0 : Int32) _ _ _ _ hq hH (lv_sub hl [1, 2, 3, 4, 5, 6, 7, 8, 0] rfl)
    · have hq := hq.2 hc
      exact s_L_areKeys_157 hst hG hB C0  n _ _ _ _ hq hH (lv_sub hl [] rfl)
set_option maxRecDepth 100000 in
set_option maxHeartbeats 4000000 in
theorem s_L_areKeys_63 {Q : Int32 → wI → Prop} {K18 : Nat → Int32 → Int32 → Int32 → Int32 → wI → Prop} (hst : l.stackTraces = false) (hG : G.2 = 116) (hB : ∀ I t, wPo D cs b G I t → wPo D cs b B I t) (C0 : wCx p m c s args meth cL_areKeys 14 RL (some .boolean) D cs ad b) (hK18 : ∀ (n : Nat) (v3 : Int32) (v4 : Int32) (v5 : Int32) (v7 : Int32) (I : wI) (H : Heap) (locs : List Loc) (ls : Array Slot), K18 n v3 v4 v5 v7 I → wH D cs b G I s H locs → lv_has ls 14 [(0, .ref (G.1 0)), (1, .ref (G.1 112)), (2, .ref (G.1 113)), (3, .int v3), (4, .int v4), (5, .int v5), (6, .ref (G.1 115)), (7, .int v7)] → W p l e rm_L_areKeys s m args below meth c H locs n (12 * n) (MQ below (va_Qi (Q) (wPo D cs b B) (fun q => b ≤ q)) args s 31 (12 * 31) (fun q => b ≤ q)) (F0 m 18 ls [])) : ∀ (n : Nat) (v3 : Int32) (v4 : Int32) (v7 : Int32) (v8 : Int32) (v9 : Int32) (t0 : Int32) (t1 : Int32) (I : wI) (H : Heap) (locs : List Loc) (ls : Array Slot), v_L_areKeys_63 Q K18 n v3 v4 v7 v8 v9 t0 t1 I → wH D cs b G I s H locs → lv_has ls 14 [(0, .ref (G.1 0)), (1, .ref (G.1 112)), (2, .ref (G.1 113)), (3, .int v3), (4, .int v4), (6, .ref (G.1 115)), (7, .int v7), (8, .int v8), (9, .int v9)] → W p l e rm_L_areKeys s m args below meth c H locs n (12 * n) (MQ below (va_Qi (Q) (wPo D cs b B) (fun q => b ≤ q)) args s 31 (12 * 31) (fun q => b ≤ q)) (F0 m 63 ls [.int t0, .int t1]) := by
  obtain ⟨hX, hr, hlk, hK, hE⟩ := id C0
  have hx := hX.1
  have hb := hX.2.1
  have hown := hX.2.2.2.1
  have hts := hX.2.2.2.2
  intro n v3 v4 v7 v8 v9 t0 t1 I H locs ls hq hH hl
  unfold v_L_areKeys_63 at hq
  obtain ⟨hn, hq⟩ := hq
  refine lv_iadd hx hb dL_areKeys_63 ?_
  refine lv_istore (lv' := [(5, .int (t1 + t0)), (0, .ref (G.1 0)), (1, .ref (G.1 112)), (2, .ref (G.1 113)), (3, .int v3), (4, .int v4), (6, .ref (G.1 115)), (7, .int v7), (8, .int v8), (9, .int v9)]) hx hb dL_areKeys_64 hl (by decide) rfl (fun ls hl => ?_)
  refine lv_aload_n hx hb dL_areKeys_66 rfl (lv_at hl 1 rfl) ?_
  refine lv_iload hx hb dL_areKeys_67 (lv_at hl 7 rfl) ?_
  refine lv_iconst (v := 0) hx hb dL_areKeys_69 (by decide) ?_
  obtain ⟨hp, hq⟩ := hq
  refine w_cI hH (w_rV (As := [.int v7, .int (0 : Int32)]) (rest := []) hX hK hE hH (c_X5_key  _ _ _ hp) ck5 sh0 q2_137 q2_138 q2_139 q1_1 q2_140 hd_X5_key ⟨Nat.le_of_ble_eq_true rfl, Nat.le_of_ble_eq_true rfl⟩ ⟨rfl, rfl⟩ rfl hl.1 rfl (Nat.le_of_ble_eq_true rfl) dL_areKeys_70 ⟨hn, Nat.mul_le_mul_left 12 hn⟩) (fun r1 I2 H locs hpo hH => ?_)
  have hq := hq r1 I2 hpo
  refine lv_aload_n hx hb dL_areKeys_73 rfl (lv_at hl 2 rfl) ?_
  refine lv_iload hx hb dL_areKeys_74 (lv_at hl 7 rfl) ?_
  obtain ⟨hc, hq⟩ := hq
  refine w_iald5 hX hK hH (la112 hH.2.2.1) hc dL_areKeys_76 ?_
  refine lv_icmp_ne (tgt := 157) hx hb dL_areKeys_77 (by decide) (fun hc => ?_) (fun hc => ?_)
  · have hq := hq.1 hc
    exact s_L_areKeys_157 hst hG hB C0  n _ _ _ _ hq hH (lv_sub hl [] rfl)
  · have hq := hq.2 hc
    refine lv_aload_n hx hb dL_areKeys_80 rfl (lv_at hl 1 rfl) ?_
    refine lv_iload hx hb dL_areKeys_81 (lv_at hl 7 rfl) ?_
    refine lv_iconst (v := 1) hx hb dL_areKeys_83 (by decide) ?_
    obtain ⟨hp, hq⟩ := hq
    refine w_cI hH (w_rV (As := [.int v7, .int (1 : Int32)]) (rest := []) hX hK hE hH (c_X5_key  _ _ _ hp) ck5 sh0 q2_137 q2_138 q2_139 q1_1 q2_140 hd_X5_key ⟨Nat.le_of_ble_eq_true rfl, Nat.le_of_ble_eq_true rfl⟩ ⟨rfl, rfl⟩ rfl hl.1 rfl (Nat.le_of_ble_eq_true rfl) dL_areKeys_84 ⟨hn, Nat.mul_le_mul_left 12 hn⟩) (fun r3 I4 H locs hpo hH => ?_)
    have hq := hq r3 I4 hpo
    refine lv_aload_n hx hb dL_areKeys_87 rfl (lv_at hl 2 rfl) ?_
    refine lv_iconst (v := 5) hx hb dL_areKeys_88 (by decide) ?_
    refine lv_iload hx hb dL_areKeys_89 (lv_at hl 7 rfl) ?_
    refine lv_iadd hx hb dL_areKeys_91 ?_
    obtain ⟨hc, hq⟩ := hq
    refine w_iald5 hX hK hH (la112 hH.2.2.1) hc dL_areKeys_92 ?_
    refine lv_icmp_ne (tgt := 157) hx hb dL_areKeys_93 (by decide) (fun hc => ?_) (fun hc => ?_)
    · have hq := hq.1 hc
      exact s_L_areKeys_157 hst hG hB C0  n _ _ _ _ hq hH (lv_sub hl [] rfl)
    · have hq := hq.2 hc
      refine lv_aload_n hx hb dL_areKeys_96 rfl (lv_at hl 1 rfl) ?_
      refine lv_iload hx hb dL_areKeys_97 (lv_at hl 7 rfl) ?_
      refine lv_iconst (v := 2) hx hb dL_areKeys_99 (by decide) ?_
      obtain ⟨hp, hq⟩ := hq
      refine w_cI hH (w_rV (As := [.int v7, .int (2 : Int32)]) (rest := []) hX hK hE hH (c_X5_key  _ _ _ hp) ck5 sh0 q2_137 q2_138 q2_139 q1_1 q2_140 hd_X5_key ⟨Nat.le_of_ble_eq_true rfl, Nat.le_of_ble_eq_true rfl⟩ ⟨rfl, rfl⟩ rfl hl.1 rfl (Nat.le_of_ble_eq_true rfl) dL_areKeys_100 ⟨hn, Nat.mul_le_mul_left 12 hn⟩) (fun r5 I6 H locs hpo hH => ?_)
      have hq := hq r5 I6 hpo
      refine lv_iload hx hb dL_areKeys_103 (lv_at hl 8 rfl) ?_
      refine lv_icmp_ne (tgt := 157) hx hb dL_areKeys_105 (by decide) (fun hc => ?_) (fun hc => ?_)
      · have hq := hq.1 hc
        exact s_L_areKeys_157 hst hG hB C0  n _ _ _ _ hq hH (lv_sub hl [] rfl)
      · have hq := hq.2 hc
        refine lv_aload_n hx hb dL_areKeys_108 rfl (lv_at hl 1 rfl) ?_
        refine lv_iload hx hb dL_areKeys_109 (lv_at hl 7 rfl) ?_
        refine lv_iconst (v := 3) hx hb dL_areKeys_111 (by decide) ?_
        obtain ⟨hp, hq⟩ := hq
        refine w_cI hH (w_rV (As := [.int v7, .int (3 : Int32)]) (rest := []) hX hK hE hH (c_X5_key  _ _ _ hp) ck5 sh0 q2_137 q2_138 q2_139 q1_1 q2_140 hd_X5_key ⟨Nat.le_of_ble_eq_true rfl, Nat.le_of_ble_eq_true rfl⟩ ⟨rfl, rfl⟩ rfl hl.1 rfl (Nat.le_of_ble_eq_true rfl) dL_areKeys_112 ⟨hn, Nat.mul_le_mul_left 12 hn⟩) (fun r7 I8 H locs hpo hH => ?_)
        have hq := hq r7 I8 hpo
        refine lv_iload hx hb dL_areKeys_115 (lv_at hl 8 rfl) ?_
        refine lv_icmp_ne (tgt := 157) hx hb dL_areKeys_117 (by decide) (fun hc => ?_) (fun hc => ?_)
        · have hq := hq.1 hc
          exact s_L_areKeys_157 hst hG hB C0  n _ _ _ _ hq hH (lv_sub hl [] rfl)
        · have hq := hq.2 hc
          refine lv_aload_n hx hb dL_areKeys_120 rfl (lv_at hl 1 rfl) ?_
          refine lv_iload hx hb dL_areKeys_121 (lv_at hl 7 rfl) ?_
          refine lv_iconst (v := 4) hx hb dL_areKeys_123 (by decide) ?_
          obtain ⟨hp, hq⟩ := hq
          refine w_cI hH (w_rV (As := [.int v7, .int (4 : Int32)]) (rest := []) hX hK hE hH (c_X5_key  _ _ _ hp) ck5 sh0 q2_137 q2_138 q2_139 q1_1 q2_140 hd_X5_key ⟨Nat.le_of_ble_eq_true rfl, Nat.le_of_ble_eq_true rfl⟩ ⟨rfl, rfl⟩ rfl hl.1 rfl (Nat.le_of_ble_eq_true rfl) dL_areKeys_124 ⟨hn, Nat.mul_le_mul_left 12 hn⟩) (fun r9 I10 H locs hpo hH => ?_)
          have hq := hq r9 I10 hpo
          refine lv_iload hx hb dL_areKeys_127 (lv_at hl 9 rfl) ?_
          refine lv_if_eq (tgt := 136) hx hb dL_areKeys_129 (by decide) (fun hc => ?_) (fun hc => ?_)
          · have hq := hq.1 hc
            refine lv_iconst (v := 0) hx hb dL_areKeys_136 (by decide) ?_
            exact s_L_areKeys_137 hst hG hB C0 hK18 n v3 v4 (t1 + t0) v7 (0 : Int32) r9 _ _ _ _ hq hH (lv_sub hl [1, 2, 3, 4, 5, 0, 6, 7] rfl)
          · have hq := hq.2 hc
            refine lv_iconst (v := 1) hx hb dL_areKeys_132 (by decide) ?_
            refine lv_goto (tgt := 137) hx hb dL_areKeys_133 (by decide) ?_
            exact s_L_areKeys_137 hst hG hB C0 hK18 n v3 v4 (t1 + t0) v7 (1 : Int32) r9 _ _ _ _ hq hH (lv_sub hl [1, 2, 3, 4, 5, 0, 6, 7] rfl)
set_option maxRecDepth 100000 in
set_option maxHeartbeats 4000000 in
theorem s_L_areKeys_49 {Q : Int32 → wI → Prop} {K18 : Nat → Int32 → Int32 → Int32 → Int32 → wI → Prop} (hst : l.stackTraces = false) (hG : G.2 = 116) (hB : ∀ I t, wPo D cs b G I t → wPo D cs b B I t) (C0 : wCx p m c s args meth cL_areKeys 14 RL (some .boolean) D cs ad b) (hK18 : ∀ (n : Nat) (v3 : Int32) (v4 : Int32) (v5 : Int32) (v7 : Int32) (I : wI) (H : Heap) (locs : List Loc) (ls : Array Slot), K18 n v3 v4 v5 v7 I → wH D cs b G I s H locs → lv_has ls 14 [(0, .ref (G.1 0)), (1, .ref (G.1 112)), (2, .ref (G.1 113)), (3, .int v3), (4, .int v4), (5, .int v5), (6, .ref (G.1 115)), (7, .int v7)] → W p l e rm_L_areKeys s m args below meth c H locs n (12 * n) (MQ below (va_Qi (Q) (wPo D cs b B) (fun q => b ≤ q)) args s 31 (12 * 31) (fun q => b ≤ q)) (F0 m 18 ls [])) : ∀ (n : Nat) (v3 : Int32) (v4 : Int32) (v5 : Int32) (v7 : Int32) (v8 : Int32) (t0 : Int32) (I : wI) (H : Heap) (locs : List Loc) (ls : Array Slot), v_L_areKeys_49 Q K18 n v3 v4 v5 v7 v8 t0 I → wH D cs b G I s H locs → lv_has ls 14 [(0, .ref (G.1 0)), (1, .ref (G.1 112)), (2, .ref (G.1 113)), (3, .int v3), (4, .int v4), (5, .int v5), (6, .ref (G.1 115)), (7, .int v7), (8, .int v8)] → W p l e rm_L_areKeys s m args below meth c H locs n (12 * n) (MQ below (va_Qi (Q) (wPo D cs b B) (fun q => b ≤ q)) args s 31 (12 * 31) (fun q => b ≤ q)) (F0 m 49 ls [.int t0]) := by
  obtain ⟨hX, hr, hlk, hK, hE⟩ := id C0
  have hx := hX.1
  have hb := hX.2.1
  have hown := hX.2.2.2.1
  have hts := hX.2.2.2.2
  intro n v3 v4 v5 v7 v8 t0 I H locs ls hq hH hl
  unfold v_L_areKeys_49 at hq
  obtain ⟨hn, hq⟩ := hq
  refine lv_istore (lv' := [(9, .int t0), (0, .ref (G.1 0)), (1, .ref (G.1 112)), (2, .ref (G.1 113)), (3, .int v3), (4, .int v4), (5, .int v5), (6, .ref (G.1 115)), (7, .int v7), (8, .int v8)]) hx hb dL_areKeys_49 hl (by decide) rfl (fun ls hl => ?_)
  refine lv_iload hx hb dL_areKeys_51 (lv_at hl 6 rfl) ?_
  refine lv_iload hx hb dL_areKeys_53 (lv_at hl 0 rfl) ?_
  refine lv_if_eq (tgt := 62) hx hb dL_areKeys_55 (by decide) (fun hc => ?_) (fun hc => ?_)
  · have hq := hq.1 hc
    refine lv_iconst (v := 0) hx hb dL_areKeys_62 (by decide) ?_
    exact s_L_areKeys_63 hst hG hB C0 hK18 n v3 v4 v7 v8 t0 (0 : Int32) v5 _ _ _ _ hq hH (lv_sub hl [1, 2, 3, 4, 5, 7, 8, 9, 0] rfl)
  · have hq := hq.2 hc
    refine lv_iconst (v := 1) hx hb dL_areKeys_58 (by decide) ?_
    refine lv_goto (tgt := 63) hx hb dL_areKeys_59 (by decide) ?_
    exact s_L_areKeys_63 hst hG hB C0 hK18 n v3 v4 v7 v8 t0 (1 : Int32) v5 _ _ _ _ hq hH (lv_sub hl [1, 2, 3, 4, 5, 7, 8, 9, 0] rfl)
set_option maxRecDepth 100000 in
set_option maxHeartbeats 4000000 in
theorem s_L_areKeys_18 {Q : Int32 → wI → Prop} (hst : l.stackTraces = false) (hG : G.2 = 116) (hB : ∀ I t, wPo D cs b G I t → wPo D cs b B I t) (C0 : wCx p m c s args meth cL_areKeys 14 RL (some .boolean) D cs ad b) : ∀ (f : Nat) (n : Nat) (v3 : Int32) (v4 : Int32) (v5 : Int32) (v7 : Int32) (I : wI) (H : Heap) (locs : List Loc) (ls : Array Slot), v_L_areKeys_18 Q f n v3 v4 v5 v7 I → wH D cs b G I s H locs → lv_has ls 14 [(0, .ref (G.1 0)), (1, .ref (G.1 112)), (2, .ref (G.1 113)), (3, .int v3), (4, .int v4), (5, .int v5), (6, .ref (G.1 115)), (7, .int v7)] → W p l e rm_L_areKeys s m args below meth c H locs n (12 * n) (MQ below (va_Qi (Q) (wPo D cs b B) (fun q => b ≤ q)) args s 31 (12 * 31) (fun q => b ≤ q)) (F0 m 18 ls []) := by
  obtain ⟨hX, hr, hlk, hK, hE⟩ := id C0
  have hx := hX.1
  have hb := hX.2.1
  have hown := hX.2.2.2.1
  have hts := hX.2.2.2.2
  intro f
  induction f with
  | zero =>
    intro n v3 v4 v5 v7 I H locs ls hq
    exact hq.elim
  | succ f hK18 =>
    intro n v3 v4 v5 v7 I H locs ls hq hH hl
    have hq : g_L_areKeys_18 Q (v_L_areKeys_18 Q f) n v3 v4 v5 v7 I := hq
    unfold g_L_areKeys_18 at hq
    obtain ⟨hn, hq⟩ := hq
    refine lv_iload hx hb dL_areKeys_18 (lv_at hl 7 rfl) ?_
    refine lv_iconst (v := 5) hx hb dL_areKeys_20 (by decide) ?_
    refine lv_icmp_ge (tgt := 382) hx hb dL_areKeys_21 (by decide) (fun hc => ?_) (fun hc => ?_)
    · have hq := hq.1 hc
      refine lv_aload_n hx hb dL_areKeys_382 rfl (lv_at hl 0 rfl) ?_
      obtain ⟨hp, hq⟩ := hq
      refine w_cI hH (w_rV (As := []) (rest := []) hX hK hE hH (c_X5_closest   _ hp) ck5 sh0 q3_96 q3_97 q3_98 q1_1 q3_99 hd_X5_closest ⟨Nat.le_of_ble_eq_true rfl, Nat.le_of_ble_eq_true rfl⟩ ⟨rfl, rfl⟩ rfl hl.1 rfl (Nat.le_of_ble_eq_true rfl) dL_areKeys_383 ⟨hn, Nat.mul_le_mul_left 12 hn⟩) (fun r1 I2 H locs hpo hH => ?_)
      have hq := hq r1 I2 hpo
      refine lv_iload_n hx hb dL_areKeys_386 rfl (lv_at hl 3 rfl) ?_
      refine lv_icmp_ne (tgt := 405) hx hb dL_areKeys_387 (by decide) (fun hc => ?_) (fun hc => ?_)
      · have hq := hq.1 hc
        exact s_L_areKeys_405 hst hG hB C0  n _ _ _ _ hq hH (lv_sub hl [] rfl)
      · have hq := hq.2 hc
        refine lv_aload_n hx hb dL_areKeys_390 rfl (lv_at hl 0 rfl) ?_
        refine lv_bipush (v := 7) hx hb dL_areKeys_391 (by decide) ?_
        obtain ⟨hp, hq⟩ := hq
        refine w_cIp hH (w_rV (As := [.int (7 : Int32)]) (rest := []) hX hK hE hH (c_X5_count  _ _ hp) ck5 sh0 q2_236 q2_237 q2_238 q1_1 q2_239 hd_X5_count ⟨Nat.le_of_ble_eq_true rfl, Nat.le_of_ble_eq_true rfl⟩ ⟨rfl, rfl⟩ rfl hl.1 rfl (Nat.le_of_ble_eq_true rfl) dL_areKeys_393 ⟨hn, Nat.mul_le_mul_left 12 hn⟩) (fun r3  H locs hpo hH => ?_)
        have hq := hq r3  hpo
        refine lv_iload hx hb dL_areKeys_396 (lv_at hl 5 rfl) ?_
        refine lv_icmp_ne (tgt := 405) hx hb dL_areKeys_398 (by decide) (fun hc => ?_) (fun hc => ?_)
        · have hq := hq.1 hc
          exact s_L_areKeys_405 hst hG hB C0  n _ _ _ _ hq hH (lv_sub hl [] rfl)
        · have hq := hq.2 hc
          refine lv_iconst (v := 1) hx hb dL_areKeys_401 (by decide) ?_
          refine lv_goto (tgt := 406) hx hb dL_areKeys_402 (by decide) ?_
          exact s_L_areKeys_406 hst hG hB C0  n (1 : Int32) _ _ _ _ hq hH (lv_sub hl [] rfl)
    · have hq := hq.2 hc
      refine lv_aload_n hx hb dL_areKeys_24 rfl (lv_at hl 1 rfl) ?_
      refine lv_iload hx hb dL_areKeys_25 (lv_at hl 7 rfl) ?_
      refine lv_iconst (v := 1) hx hb dL_areKeys_27 (by decide) ?_
      obtain ⟨hn, hq⟩ := hq
      obtain ⟨hp, hq⟩ := hq
      refine n_cI hH (w_rS (As := [.ref (G.1 112), .int v7, .int (1 : Int32)]) (rest := []) hX hK hE hH (c_L_period hst hG  _ _ _ hp) q3_81 q3_82 q1_0 q3_83 hd_L_period.2 ⟨Nat.le_of_ble_eq_true rfl, Nat.le_of_ble_eq_true rfl⟩ ⟨rfl, rfl⟩ rfl hl.1 rfl (Nat.le_of_ble_eq_true rfl) dL_areKeys_28 (n_fit hn (by decide))) (by decide) (fun r4 I5 H locs hpo hH => ?_)
      have hq := hq r4 I5 hpo
      refine lv_istore (lv' := [(8, .int r4), (0, .ref (G.1 0)), (1, .ref (G.1 112)), (2, .ref (G.1 113)), (3, .int v3), (4, .int v4), (5, .int v5), (6, .ref (G.1 115)), (7, .int v7)]) hx hb dL_areKeys_31 hl (by decide) rfl (fun ls hl => ?_)
      refine lv_aload_n hx hb dL_areKeys_33 rfl (lv_at hl 2 rfl) ?_
      refine lv_iload hx hb dL_areKeys_34 (lv_at hl 8 rfl) ?_
      obtain ⟨hc, hq⟩ := hq
      refine w_iald5 hX hK hH (la112 hH.2.2.1) hc dL_areKeys_36 ?_
      refine lv_aload_n hx hb dL_areKeys_37 rfl (lv_at hl 3 rfl) ?_
      refine lv_iconst (v := 3) hx hb dL_areKeys_38 (by decide) ?_
      obtain ⟨hc, hq⟩ := hq
      refine w_iald5 hX hK hH (la113 hH.2.2.1) hc dL_areKeys_39 ?_
      refine lv_iand hx hb dL_areKeys_40 ?_
      refine lv_if_eq (tgt := 48) hx hb dL_areKeys_41 (by decide) (fun hc => ?_) (fun hc => ?_)
      · have hq := hq.1 hc
        refine lv_iconst (v := 0) hx hb dL_areKeys_48 (by decide) ?_
        exact s_L_areKeys_49 hst hG hB C0 hK18 (n + 1) v3 v4 v5 v7 r4 (0 : Int32) _ _ _ _ hq hH (lv_sub hl [1, 2, 3, 4, 5, 6, 7, 8, 0] rfl)
      · have hq := hq.2 hc
        refine lv_iconst (v := 1) hx hb dL_areKeys_44 (by decide) ?_
        refine lv_goto (tgt := 49) hx hb dL_areKeys_45 (by decide) ?_
        exact s_L_areKeys_49 hst hG hB C0 hK18 (n + 1) v3 v4 v5 v7 r4 (1 : Int32) _ _ _ _ hq hH (lv_sub hl [1, 2, 3, 4, 5, 6, 7, 8, 0] rfl)
set_option maxRecDepth 100000 in
set_option maxHeartbeats 4000000 in
theorem c_L_areKeys {l : Launch} {D : va_G} {cs : wC4} {ad : Nat → Nat} {b : Nat} {B : wG} (hst : l.stackTraces = false) (hG0 : B.2 = 115)  (I : wI) (hp : pre_L_areKeys  I) : Met l yL_areKeys (ws_ yL_areKeys cL_areKeys 14 (some .boolean)) rm_L_areKeys (va_Pc [.ref (B.1 0), .ref (B.1 112), .ref (B.1 113)] (wPr D cs ad b B I)) (va_Qi (fun r I' => post_L_areKeys  I r I') (wPo D cs b B) (fun q => b ≤ q)) 31 (12 * 31) (fun q => b ≤ q) := by
  have hq := vc_L_areKeys  I hp
  refine w_met (by decide) (Nat.le_of_ble_eq_true rfl) ?_
  intro p e s m below meth c hX hr hlk hK hE hH ls hl
  have C0 : wCx p m c s _ meth cL_areKeys 14 RL (some .boolean) D cs ad b := ⟨hX, hr, hlk, hK, hE⟩
  have hX : CallFix p m c cL_areKeys 14 s _ lw_all RL := hX
  have hx := hX.1
  have hb := hX.2.1
  have hown := hX.2.2.2.1
  have hts := hX.2.2.2.2
  have hl : lv_has ls 14 [(0, .ref (B.1 0)), (1, .ref (B.1 112)), (2, .ref (B.1 113))] := hl
  obtain ⟨G, hG, hA, hsz⟩ := n_more B s.heap.size 115
  have hB : ∀ I t, wPo D cs b G I t → wPo D cs b B I t := n_back (by decide) hG0 hG hA
  have hH : wH D cs b (G.1, 115) I s s.heap [] := n_fore (by decide) hG0 hA hH
  rw [hA 0 (by decide), hA 112 (by decide), hA 113 (by decide)] at hl
  have hn : 0 ≤ 31 := Nat.zero_le _
  refine w_n0 ?_
  have hl : lv_has ls 14 [(0, .ref (G.1 0)), (1, .ref (G.1 112)), (2, .ref (G.1 113))] := hl
  unfold v_L_areKeys at hq
  refine lv_iconst (v := 0) hx hb dL_areKeys_0 (by decide) ?_
  refine lv_istore_n (lv' := [(3, .int (0 : Int32)), (0, .ref (G.1 0)), (1, .ref (G.1 112)), (2, .ref (G.1 113))]) hx hb dL_areKeys_1 rfl hl (by decide) rfl (fun ls hl => ?_)
  refine lv_bipush (v := 7) hx hb dL_areKeys_2 (by decide) ?_
  refine lv_istore (lv' := [(4, .int (7 : Int32)), (3, .int (0 : Int32)), (0, .ref (G.1 0)), (1, .ref (G.1 112)), (2, .ref (G.1 113))]) hx hb dL_areKeys_4 hl (by decide) rfl (fun ls hl => ?_)
  refine lv_iconst (v := 0) hx hb dL_areKeys_6 (by decide) ?_
  refine lv_istore (lv' := [(5, .int (0 : Int32)), (4, .int (7 : Int32)), (3, .int (0 : Int32)), (0, .ref (G.1 0)), (1, .ref (G.1 112)), (2, .ref (G.1 113))]) hx hb dL_areKeys_7 hl (by decide) rfl (fun ls hl => ?_)
  refine lv_bipush (v := 12) hx hb dL_areKeys_9 (by decide) ?_
  obtain ⟨hn, hq⟩ := hq
  refine n_newa (N := 115) hX hK hH hG hsz rfl rfl q1_42 ⟨hn, Nat.mul_le_mul_left 12 hn⟩ dL_areKeys_11 (fun I1 H hI hH => ?_)
  have hq := hq I1 hI
  refine lv_astore (lv' := [(6, .ref (G.1 115)), (5, .int (0 : Int32)), (4, .int (7 : Int32)), (3, .int (0 : Int32)), (0, .ref (G.1 0)), (1, .ref (G.1 112)), (2, .ref (G.1 113))]) hx hb dL_areKeys_13 hl (by decide) rfl (fun ls hl => ?_)
  refine lv_iconst (v := 0) hx hb dL_areKeys_15 (by decide) ?_
  refine lv_istore (lv' := [(7, .int (0 : Int32)), (6, .ref (G.1 115)), (5, .int (0 : Int32)), (4, .int (7 : Int32)), (3, .int (0 : Int32)), (0, .ref (G.1 0)), (1, .ref (G.1 112)), (2, .ref (G.1 113))]) hx hb dL_areKeys_16 hl (by decide) rfl (fun ls hl => ?_)
  obtain ⟨f, hq⟩ := hq
  exact s_L_areKeys_18 hst hG hB C0  f 1 (0 : Int32) (7 : Int32) (0 : Int32) (0 : Int32) _ _ _ _ hq hH (lv_sub hl [5, 6, 7, 4, 3, 2, 1, 0] rfl)
end
