/-! ===== the law's body, case by case ===== -/
def wLx (p : Program) (m : MethodId) (c : Code) (s : State) (a0 : Nat) (meth : Method) (D : va_G) (cs : wC4) (ad : Nat → Nat) (b L : Nat) (xs : Nat → Int32) : Prop :=
  CallFix p m c cL_law 9 s #[Value.ref a0] lw_all RL ∧ meth.sig.returnType = ret ∧ meth.locks = false ∧ va_K D vwCl (wTys cs) s ∧ wEn ad b s s.heap ∧ wNc s ∧ va_X a0 L xs s s.heap ∧ a0 < s.heap.size ∧ b = s.heap.size
def mnOK (n : Nat) : Bool := okN64 (FP.f2d (shF n)) && decide (Op.cmpValue (FP.dcmp (FP.f2d (shF n)) (FP.f2d (shF n))) CmpOp.l = 0)
theorem mnAll : ∀ n, n < 25 → mnOK n = true := by decide +kernel
theorem mn_ok {I : wI} {v : UInt32} (hi : inv I) (h : post_X5_meanNotch I v) : ∃ n, n ≤ 24 ∧ v = shF n := ⟨_, aNS_le hi.1.1.1, h⟩
theorem f2d_n {v : UInt32} (h : ∃ n, n ≤ 24 ∧ v = shF n) : vf_n64 (FP.f2d v) := by
  obtain ⟨n, hn, rfl⟩ := h
  exact okN64_v ((Bool.and_eq_true _ _).mp (mnAll n (by omega))).1
theorem mn_cm {I : wI} {v : UInt32} (hi : inv I) (h : post_X5_meanNotch I v) : Op.cmpValue (FP.dcmp (FP.f2d v) (FP.f2d v)) CmpOp.l = 0 := by
  obtain ⟨n, hn, rfl⟩ := mn_ok hi h
  exact of_decide_eq_true ((Bool.and_eq_true _ _).mp (mnAll n (by omega))).2
theorem os_cm {I : wI} {v : UInt64} (hi : inv I) (h : post_X5_openShare I v) : Op.cmpValue (FP.dcmp v v) CmpOp.l = 0 := by
  have h : v = shD (aRt (rowC 1 I)) := h
  subst h
  obtain ⟨_, h2⟩ := (Bool.and_eq_true _ _).mp (dbAll (aRt (rowC 1 I)) (by have := aRt_le (rowC 1 I); omega))
  exact of_decide_eq_true ((Bool.and_eq_true _ _).mp h2).1
section LAW
variable {p : Program} {l : Launch} {e : Env} {s : State} {m : MethodId} {below : List Frame} {meth : Method} {c : Code} {Q : State → Prop} {D : va_G} {cs : wC4} {ad : Nat → Nat} {b a0 L : Nat} {xs : Nat → Int32}

set_option maxRecDepth 100000 in
set_option maxHeartbeats 4000000 in
theorem k_0 (C0 : wLx p m c s a0 meth D cs ad b L xs) (hst : l.stackTraces = false) (hL : L ≤ 2048) {i cells slots : Nat} (hi4 : i + 4 ≤ L) (hc : cells + 1 ≤ 601024) (hs : slots + 6 ≤ 7293034)
    (K : ∀ (I2 : wI) (G2 : wG) (H : Heap) (locs : List Loc) (ls : Array Slot), inv I2 → wH D cs b G2 I2 s H locs → lv_has ls 9 [(4, .int (nI i)), (3, .ref (b + 124)), (2, .ref (b + 111)), (1, .ref (b + 0)), (0, .ref a0)] → W p l e room_1 s m #[Value.ref a0] below meth c H locs (cells + 1) (slots + 6) Q (F0 m 1212 ls [])) :
    ∀ (I : wI) (G : wG) (H : Heap) (locs : List Loc) (ls : Array Slot), inv I → wH D cs b G I s H locs → lv_has ls 9 [(4, .int (nI i)), (3, .ref (b + 124)), (2, .ref (b + 111)), (1, .ref (b + 0)), (0, .ref a0)] → W p l e room_1 s m #[Value.ref a0] below meth c H locs cells slots Q (F0 m 148 ls []) := by
  intro I G H locs ls hi hH hl
  obtain ⟨hX, hr, hlk, hK, hE, hN, hS0, ha0, hbb⟩ := id C0
  have hx := hX.1
  have hb := hX.2.1
  have hown := hX.2.2.2.1
  have hts := hX.2.2.2.2
  have hbA : ¬ (fun q : Nat => b ≤ q) a0 := by show ¬ b ≤ a0; rw [hbb]; exact Nat.not_le.mpr ha0
  have hin1 : vp_in (nI i + (1 : Int32)) L := by rw [i_s]; exact i_in (by omega) (by omega)
  have hin2 : vp_in (nI i + (2 : Int32)) L := by rw [l_2, i_add]; exact i_in (by omega) (by omega)
  have hin3 : vp_in (nI i + (3 : Int32)) L := by rw [l_3, i_add]; exact i_in (by omega) (by omega)
  refine lv_aload_n hx hb dL_law_148 rfl (lv_at hl 3 rfl) ?_
  refine lv_aload_n hx hb dL_law_149 rfl (lv_at hl 4 rfl) ?_
  refine lv_iload hx hb dL_law_150 (lv_at hl 0 rfl) ?_
  refine lv_iconst (v := 1) hx hb dL_law_152 (by decide) ?_
  refine lv_iadd hx hb dL_law_153 ?_
  refine va_sld hx hb hS0 ha0 hbA hH.2 hin1 dL_law_154 ?_
  refine lv_aload_n hx hb dL_law_155 rfl (lv_at hl 1 rfl) ?_
  refine w_cIL hH (w_rSW (As := [.ref (b + 0), .int (xs ((nI i) + (1 : Int32)).toNatClampNeg), .ref (b + 124)]) (rest := []) hX hK hE hN hH (c_L_turn hst (xs ((nI i) + (1 : Int32)).toNatClampNeg) I (fun h => ⟨hi.1, h⟩) (fun h => ⟨hi.1, h⟩) (fun E u h => h.2.elim (fun q => Or.inl q.2) (fun q => Or.inr q.2))) q3_148 q3_149 q1_0 q3_150 hd_L_turn ⟨Nat.le_of_ble_eq_true rfl, Nat.le_of_ble_eq_true rfl⟩ ⟨rfl, rfl⟩ rfl hl.1 rfl (Nat.le_of_ble_eq_true rfl) dL_law_156 ⟨hc, hs⟩) (fun r1 I2 G3 H locs h1 hH => ?_)
  refine lv_istore (lv' := [(5, .int r1), (4, .int (nI i)), (3, .ref (b + 124)), (2, .ref (b + 111)), (1, .ref (b + 0)), (0, .ref a0)]) hx hb dL_law_159 hl (by decide) rfl (fun ls hl => ?_)
  refine lv_aload_n hx hb dL_law_161 rfl (lv_at hl 3 rfl) ?_
  refine lv_aload_n hx hb dL_law_162 rfl (lv_at hl 5 rfl) ?_
  refine lv_iload hx hb dL_law_163 (lv_at hl 1 rfl) ?_
  refine lv_iconst (v := 1) hx hb dL_law_165 (by decide) ?_
  refine lv_iadd hx hb dL_law_166 ?_
  refine va_sld hx hb hS0 ha0 hbA hH.2 hin1 dL_law_167 ?_
  refine w_cI hH (w_rV (As := [.int (xs ((nI i) + (1 : Int32)).toNatClampNeg)]) (rest := []) hX hK hE hH (c_X6_turn (xs ((nI i) + (1 : Int32)).toNatClampNeg) I2 (pm_turn (xs ((nI i) + (1 : Int32)).toNatClampNeg) hi h1)) ck6 sh111 q4_157 q4_158 q4_159 q1_7 q4_160 hd_X6_turn ⟨Nat.le_of_ble_eq_true rfl, Nat.le_of_ble_eq_true rfl⟩ ⟨rfl, rfl⟩ rfl hl.1 rfl (Nat.le_of_ble_eq_true rfl) dL_law_168 ⟨by show cells + 1 + 0 ≤ 601024; omega, by show slots + 6 + 0 ≤ 7293034; omega⟩) (fun r4 I5 H locs h2 hH => ?_)
  obtain ⟨hi2, hT, hR⟩ := st_turn (xs ((nI i) + (1 : Int32)).toNatClampNeg) hi h1 h2
  refine lv_istore (lv' := [(6, .int r4), (5, .int r1), (4, .int (nI i)), (3, .ref (b + 124)), (2, .ref (b + 111)), (1, .ref (b + 0)), (0, .ref a0)]) hx hb dL_law_171 hl (by decide) rfl (fun ls hl => ?_)
  refine lv_aload_n hx hb dL_law_173 rfl (lv_at hl 4 rfl) ?_
  refine w_cIp hH (w_rV (As := []) (rest := []) hX hK hE hH (c_X6_thrown  I5 trivial) ck6 sh111 q4_137 q4_138 q4_139 q1_7 q4_140 hd_X6_thrown ⟨Nat.le_of_ble_eq_true rfl, Nat.le_of_ble_eq_true rfl⟩ ⟨rfl, rfl⟩ rfl hl.1 rfl (Nat.le_of_ble_eq_true rfl) dL_law_174 ⟨by show cells + 1 + 0 ≤ 601024; omega, by show slots + 6 + 0 ≤ 7293034; omega⟩) (fun r6 H locs h3 hH => ?_)
  refine lv_iload hx hb dL_law_177 (lv_at hl 1 rfl) ?_
  refine lv_icmp_eq (tgt := 184) hx hb dL_law_179 (by decide) (fun hc9 => ?_) (fun hc9 => absurd (h3.trans hT) hc9)
  refine lv_iload hx hb dL_law_184 (lv_at hl 1 rfl) ?_
  refine lv_if_ne (tgt := 201) hx hb dL_law_186 (by decide) (fun hc9 => ?_) (fun hc9 => ?_)
  · have hz := hc9
    refine lv_goto (tgt := 1212) hx hb dL_law_201 (by decide) ?_
    exact K I5 G3 _ _ _ hi2 hH (lv_sub hl [2, 3, 4, 5, 6] rfl)
  · have hR2 := hR hc9
    refine lv_aload_n hx hb dL_law_189 rfl (lv_at hl 3 rfl) ?_
    refine lv_iconst (v := 0) hx hb dL_law_190 (by decide) ?_
    refine w_lald hX hK hH dL_law_191 ?_
    refine lv_iload hx hb dL_law_192 (lv_at hl 0 rfl) ?_
    refine lv_i2l hx hb dL_law_194 rfl ?_
    refine W.lcmp hx hb dL_law_195 ?_
    refine lv_if_eq (tgt := 201) hx hb dL_law_196 (by decide) (fun hc8 => ?_) (fun hc8 => absurd ((lg_cmp_eq _ _).mpr hR2) hc8)
    refine lv_goto (tgt := 1212) hx hb dL_law_201 (by decide) ?_
    exact K I5 G3 _ _ _ hi2 hH (lv_sub hl [2, 3, 4, 5, 6] rfl)

set_option maxRecDepth 100000 in
set_option maxHeartbeats 4000000 in
theorem k_1 (C0 : wLx p m c s a0 meth D cs ad b L xs) (hst : l.stackTraces = false) (hL : L ≤ 2048) {i cells slots : Nat} (hi4 : i + 4 ≤ L) (hc : cells + 1 ≤ 601024) (hs : slots + 6 ≤ 7293034)
    (K : ∀ (I2 : wI) (G2 : wG) (H : Heap) (locs : List Loc) (ls : Array Slot), inv I2 → wH D cs b G2 I2 s H locs → lv_has ls 9 [(4, .int (nI i)), (3, .ref (b + 124)), (2, .ref (b + 111)), (1, .ref (b + 0)), (0, .ref a0)] → W p l e room_1 s m #[Value.ref a0] below meth c H locs (cells + 1) (slots + 6) Q (F0 m 1212 ls [])) :
    ∀ (I : wI) (G : wG) (H : Heap) (locs : List Loc) (ls : Array Slot), inv I → wH D cs b G I s H locs → lv_has ls 9 [(4, .int (nI i)), (3, .ref (b + 124)), (2, .ref (b + 111)), (1, .ref (b + 0)), (0, .ref a0)] → W p l e room_1 s m #[Value.ref a0] below meth c H locs cells slots Q (F0 m 204 ls []) := by
  intro I G H locs ls hi hH hl
  obtain ⟨hX, hr, hlk, hK, hE, hN, hS0, ha0, hbb⟩ := id C0
  have hx := hX.1
  have hb := hX.2.1
  have hown := hX.2.2.2.1
  have hts := hX.2.2.2.2
  have hbA : ¬ (fun q : Nat => b ≤ q) a0 := by show ¬ b ≤ a0; rw [hbb]; exact Nat.not_le.mpr ha0
  have hin1 : vp_in (nI i + (1 : Int32)) L := by rw [i_s]; exact i_in (by omega) (by omega)
  have hin2 : vp_in (nI i + (2 : Int32)) L := by rw [l_2, i_add]; exact i_in (by omega) (by omega)
  have hin3 : vp_in (nI i + (3 : Int32)) L := by rw [l_3, i_add]; exact i_in (by omega) (by omega)
  refine lv_aload_n hx hb dL_law_204 rfl (lv_at hl 3 rfl) ?_
  refine lv_aload_n hx hb dL_law_205 rfl (lv_at hl 4 rfl) ?_
  refine lv_iload hx hb dL_law_206 (lv_at hl 0 rfl) ?_
  refine lv_iconst (v := 1) hx hb dL_law_208 (by decide) ?_
  refine lv_iadd hx hb dL_law_209 ?_
  refine va_sld hx hb hS0 ha0 hbA hH.2 hin1 dL_law_210 ?_
  refine lv_aload_n hx hb dL_law_211 rfl (lv_at hl 1 rfl) ?_
  refine w_cIL hH (w_rSW (As := [.ref (b + 0), .int (xs ((nI i) + (1 : Int32)).toNatClampNeg), .ref (b + 124)]) (rest := []) hX hK hE hN hH (c_L_back hst (xs ((nI i) + (1 : Int32)).toNatClampNeg) I (fun h => ⟨hi.1, h⟩) (fun h => ⟨hi.1, h⟩) (fun E u h => h.2.elim (fun q => Or.inl q.2) (fun q => Or.inr q.2))) q3_191 q3_192 q1_0 q3_193 hd_L_back ⟨Nat.le_of_ble_eq_true rfl, Nat.le_of_ble_eq_true rfl⟩ ⟨rfl, rfl⟩ rfl hl.1 rfl (Nat.le_of_ble_eq_true rfl) dL_law_212 ⟨hc, hs⟩) (fun r1 I2 G3 H locs h1 hH => ?_)
  refine lv_istore (lv' := [(5, .int r1), (4, .int (nI i)), (3, .ref (b + 124)), (2, .ref (b + 111)), (1, .ref (b + 0)), (0, .ref a0)]) hx hb dL_law_215 hl (by decide) rfl (fun ls hl => ?_)
  refine lv_aload_n hx hb dL_law_217 rfl (lv_at hl 3 rfl) ?_
  refine lv_aload_n hx hb dL_law_218 rfl (lv_at hl 5 rfl) ?_
  refine lv_iload hx hb dL_law_219 (lv_at hl 1 rfl) ?_
  refine lv_iconst (v := 1) hx hb dL_law_221 (by decide) ?_
  refine lv_iadd hx hb dL_law_222 ?_
  refine va_sld hx hb hS0 ha0 hbA hH.2 hin1 dL_law_223 ?_
  refine w_cI hH (w_rV (As := [.int (xs ((nI i) + (1 : Int32)).toNatClampNeg)]) (rest := []) hX hK hE hH (c_X6_back (xs ((nI i) + (1 : Int32)).toNatClampNeg) I2 (pm_back (xs ((nI i) + (1 : Int32)).toNatClampNeg) hi h1)) ck6 sh111 q4_206 q4_207 q4_208 q1_7 q4_209 hd_X6_back ⟨Nat.le_of_ble_eq_true rfl, Nat.le_of_ble_eq_true rfl⟩ ⟨rfl, rfl⟩ rfl hl.1 rfl (Nat.le_of_ble_eq_true rfl) dL_law_224 ⟨by show cells + 1 + 0 ≤ 601024; omega, by show slots + 6 + 0 ≤ 7293034; omega⟩) (fun r4 I5 H locs h2 hH => ?_)
  obtain ⟨hi2, hT, hR⟩ := st_back (xs ((nI i) + (1 : Int32)).toNatClampNeg) hi h1 h2
  refine lv_istore (lv' := [(6, .int r4), (5, .int r1), (4, .int (nI i)), (3, .ref (b + 124)), (2, .ref (b + 111)), (1, .ref (b + 0)), (0, .ref a0)]) hx hb dL_law_227 hl (by decide) rfl (fun ls hl => ?_)
  refine lv_aload_n hx hb dL_law_229 rfl (lv_at hl 4 rfl) ?_
  refine w_cIp hH (w_rV (As := []) (rest := []) hX hK hE hH (c_X6_thrown  I5 trivial) ck6 sh111 q4_137 q4_138 q4_139 q1_7 q4_140 hd_X6_thrown ⟨Nat.le_of_ble_eq_true rfl, Nat.le_of_ble_eq_true rfl⟩ ⟨rfl, rfl⟩ rfl hl.1 rfl (Nat.le_of_ble_eq_true rfl) dL_law_230 ⟨by show cells + 1 + 0 ≤ 601024; omega, by show slots + 6 + 0 ≤ 7293034; omega⟩) (fun r6 H locs h3 hH => ?_)
  refine lv_iload hx hb dL_law_233 (lv_at hl 1 rfl) ?_
  refine lv_icmp_eq (tgt := 240) hx hb dL_law_235 (by decide) (fun hc9 => ?_) (fun hc9 => absurd (h3.trans hT) hc9)
  refine lv_iload hx hb dL_law_240 (lv_at hl 1 rfl) ?_
  refine lv_if_ne (tgt := 257) hx hb dL_law_242 (by decide) (fun hc9 => ?_) (fun hc9 => ?_)
  · have hz := hc9
    refine lv_goto (tgt := 1212) hx hb dL_law_257 (by decide) ?_
    exact K I5 G3 _ _ _ hi2 hH (lv_sub hl [2, 3, 4, 5, 6] rfl)
  · have hR2 := hR hc9
    refine lv_aload_n hx hb dL_law_245 rfl (lv_at hl 3 rfl) ?_
    refine lv_iconst (v := 0) hx hb dL_law_246 (by decide) ?_
    refine w_lald hX hK hH dL_law_247 ?_
    refine lv_iload hx hb dL_law_248 (lv_at hl 0 rfl) ?_
    refine lv_i2l hx hb dL_law_250 rfl ?_
    refine W.lcmp hx hb dL_law_251 ?_
    refine lv_if_eq (tgt := 257) hx hb dL_law_252 (by decide) (fun hc8 => ?_) (fun hc8 => absurd ((lg_cmp_eq _ _).mpr hR2) hc8)
    refine lv_goto (tgt := 1212) hx hb dL_law_257 (by decide) ?_
    exact K I5 G3 _ _ _ hi2 hH (lv_sub hl [2, 3, 4, 5, 6] rfl)

set_option maxRecDepth 100000 in
set_option maxHeartbeats 4000000 in
theorem k_2 (C0 : wLx p m c s a0 meth D cs ad b L xs) (hst : l.stackTraces = false) (hL : L ≤ 2048) {i cells slots : Nat} (hi4 : i + 4 ≤ L) (hc : cells + 1 ≤ 601024) (hs : slots + 6 ≤ 7293034)
    (K : ∀ (I2 : wI) (G2 : wG) (H : Heap) (locs : List Loc) (ls : Array Slot), inv I2 → wH D cs b G2 I2 s H locs → lv_has ls 9 [(4, .int (nI i)), (3, .ref (b + 124)), (2, .ref (b + 111)), (1, .ref (b + 0)), (0, .ref a0)] → W p l e room_1 s m #[Value.ref a0] below meth c H locs (cells + 1) (slots + 6) Q (F0 m 1212 ls [])) :
    ∀ (I : wI) (G : wG) (H : Heap) (locs : List Loc) (ls : Array Slot), inv I → wH D cs b G I s H locs → lv_has ls 9 [(4, .int (nI i)), (3, .ref (b + 124)), (2, .ref (b + 111)), (1, .ref (b + 0)), (0, .ref a0)] → W p l e room_1 s m #[Value.ref a0] below meth c H locs cells slots Q (F0 m 260 ls []) := by
  intro I G H locs ls hi hH hl
  obtain ⟨hX, hr, hlk, hK, hE, hN, hS0, ha0, hbb⟩ := id C0
  have hx := hX.1
  have hb := hX.2.1
  have hown := hX.2.2.2.1
  have hts := hX.2.2.2.2
  have hbA : ¬ (fun q : Nat => b ≤ q) a0 := by show ¬ b ≤ a0; rw [hbb]; exact Nat.not_le.mpr ha0
  have hin1 : vp_in (nI i + (1 : Int32)) L := by rw [i_s]; exact i_in (by omega) (by omega)
  have hin2 : vp_in (nI i + (2 : Int32)) L := by rw [l_2, i_add]; exact i_in (by omega) (by omega)
  have hin3 : vp_in (nI i + (3 : Int32)) L := by rw [l_3, i_add]; exact i_in (by omega) (by omega)
  refine lv_aload_n hx hb dL_law_260 rfl (lv_at hl 3 rfl) ?_
  refine lv_aload_n hx hb dL_law_261 rfl (lv_at hl 1 rfl) ?_
  refine w_cIL hH (w_rSW (As := [.ref (b + 0), .ref (b + 124)]) (rest := []) hX hK hE hN hH (c_L_word hst  I (fun h => ⟨hi.1, h⟩) (fun h => ⟨hi.1, h⟩) (fun E u h => h.2.elim (fun q => Or.inl q.2) (fun q => Or.inr q.2))) q3_198 q3_199 q1_0 q3_200 hd_L_word ⟨Nat.le_of_ble_eq_true rfl, Nat.le_of_ble_eq_true rfl⟩ ⟨rfl, rfl⟩ rfl hl.1 rfl (Nat.le_of_ble_eq_true rfl) dL_law_262 ⟨hc, hs⟩) (fun r1 I2 G3 H locs h1 hH => ?_)
  refine lv_istore (lv' := [(5, .int r1), (4, .int (nI i)), (3, .ref (b + 124)), (2, .ref (b + 111)), (1, .ref (b + 0)), (0, .ref a0)]) hx hb dL_law_265 hl (by decide) rfl (fun ls hl => ?_)
  refine lv_aload_n hx hb dL_law_267 rfl (lv_at hl 3 rfl) ?_
  refine w_cI hH (w_rV (As := []) (rest := []) hX hK hE hH (c_X6_word  I2 (pm_word hi h1)) ck6 sh111 q4_210 q4_211 q4_212 q1_7 q4_213 hd_X6_word ⟨Nat.le_of_ble_eq_true rfl, Nat.le_of_ble_eq_true rfl⟩ ⟨rfl, rfl⟩ rfl hl.1 rfl (Nat.le_of_ble_eq_true rfl) dL_law_268 ⟨by show cells + 1 + 0 ≤ 601024; omega, by show slots + 6 + 0 ≤ 7293034; omega⟩) (fun r4 I5 H locs h2 hH => ?_)
  obtain ⟨hi2, hT, hR⟩ := st_word  hi h1 h2
  refine lv_istore (lv' := [(6, .int r4), (5, .int r1), (4, .int (nI i)), (3, .ref (b + 124)), (2, .ref (b + 111)), (1, .ref (b + 0)), (0, .ref a0)]) hx hb dL_law_271 hl (by decide) rfl (fun ls hl => ?_)
  refine lv_aload_n hx hb dL_law_273 rfl (lv_at hl 4 rfl) ?_
  refine w_cIp hH (w_rV (As := []) (rest := []) hX hK hE hH (c_X6_thrown  I5 trivial) ck6 sh111 q4_137 q4_138 q4_139 q1_7 q4_140 hd_X6_thrown ⟨Nat.le_of_ble_eq_true rfl, Nat.le_of_ble_eq_true rfl⟩ ⟨rfl, rfl⟩ rfl hl.1 rfl (Nat.le_of_ble_eq_true rfl) dL_law_274 ⟨by show cells + 1 + 0 ≤ 601024; omega, by show slots + 6 + 0 ≤ 7293034; omega⟩) (fun r6 H locs h3 hH => ?_)
  refine lv_iload hx hb dL_law_277 (lv_at hl 1 rfl) ?_
  refine lv_icmp_eq (tgt := 284) hx hb dL_law_279 (by decide) (fun hc9 => ?_) (fun hc9 => absurd (h3.trans hT) hc9)
  refine lv_iload hx hb dL_law_284 (lv_at hl 1 rfl) ?_
  refine lv_if_ne (tgt := 301) hx hb dL_law_286 (by decide) (fun hc9 => ?_) (fun hc9 => ?_)
  · have hz := hc9
    refine lv_goto (tgt := 1212) hx hb dL_law_301 (by decide) ?_
    exact K I5 G3 _ _ _ hi2 hH (lv_sub hl [2, 3, 4, 5, 6] rfl)
  · have hR2 := hR hc9
    refine lv_aload_n hx hb dL_law_289 rfl (lv_at hl 3 rfl) ?_
    refine lv_iconst (v := 0) hx hb dL_law_290 (by decide) ?_
    refine w_lald hX hK hH dL_law_291 ?_
    refine lv_iload hx hb dL_law_292 (lv_at hl 0 rfl) ?_
    refine lv_i2l hx hb dL_law_294 rfl ?_
    refine W.lcmp hx hb dL_law_295 ?_
    refine lv_if_eq (tgt := 301) hx hb dL_law_296 (by decide) (fun hc8 => ?_) (fun hc8 => absurd ((lg_cmp_eq _ _).mpr hR2) hc8)
    refine lv_goto (tgt := 1212) hx hb dL_law_301 (by decide) ?_
    exact K I5 G3 _ _ _ hi2 hH (lv_sub hl [2, 3, 4, 5, 6] rfl)

set_option maxRecDepth 100000 in
set_option maxHeartbeats 4000000 in
theorem k_3 (C0 : wLx p m c s a0 meth D cs ad b L xs) (hst : l.stackTraces = false) (hL : L ≤ 2048) {i cells slots : Nat} (hi4 : i + 4 ≤ L) (hc : cells + 1 ≤ 601024) (hs : slots + 6 ≤ 7293034)
    (K : ∀ (I2 : wI) (G2 : wG) (H : Heap) (locs : List Loc) (ls : Array Slot), inv I2 → wH D cs b G2 I2 s H locs → lv_has ls 9 [(4, .int (nI i)), (3, .ref (b + 124)), (2, .ref (b + 111)), (1, .ref (b + 0)), (0, .ref a0)] → W p l e room_1 s m #[Value.ref a0] below meth c H locs (cells + 1) (slots + 6) Q (F0 m 1212 ls [])) :
    ∀ (I : wI) (G : wG) (H : Heap) (locs : List Loc) (ls : Array Slot), inv I → wH D cs b G I s H locs → lv_has ls 9 [(4, .int (nI i)), (3, .ref (b + 124)), (2, .ref (b + 111)), (1, .ref (b + 0)), (0, .ref a0)] → W p l e room_1 s m #[Value.ref a0] below meth c H locs cells slots Q (F0 m 304 ls []) := by
  intro I G H locs ls hi hH hl
  obtain ⟨hX, hr, hlk, hK, hE, hN, hS0, ha0, hbb⟩ := id C0
  have hx := hX.1
  have hb := hX.2.1
  have hown := hX.2.2.2.1
  have hts := hX.2.2.2.2
  have hbA : ¬ (fun q : Nat => b ≤ q) a0 := by show ¬ b ≤ a0; rw [hbb]; exact Nat.not_le.mpr ha0
  have hin1 : vp_in (nI i + (1 : Int32)) L := by rw [i_s]; exact i_in (by omega) (by omega)
  have hin2 : vp_in (nI i + (2 : Int32)) L := by rw [l_2, i_add]; exact i_in (by omega) (by omega)
  have hin3 : vp_in (nI i + (3 : Int32)) L := by rw [l_3, i_add]; exact i_in (by omega) (by omega)
  refine lv_aload_n hx hb dL_law_304 rfl (lv_at hl 3 rfl) ?_
  refine w_cI hH (w_rV (As := []) (rest := []) hX hK hE hH (c_X5_home  I hi.1) ck5 sh0 q1_206 q1_207 q1_208 q1_1 q1_209 hd_X5_home ⟨Nat.le_of_ble_eq_true rfl, Nat.le_of_ble_eq_true rfl⟩ ⟨rfl, rfl⟩ rfl hl.1 rfl (Nat.le_of_ble_eq_true rfl) dL_law_305 ⟨by show cells + 0 ≤ 601024; omega, by show slots + 0 ≤ 7293034; omega⟩) (fun r1 I2 H locs h1 hH => ?_)
  refine lv_aload_n hx hb dL_law_308 rfl (lv_at hl 2 rfl) ?_
  refine w_cI hH (w_rV (As := []) (rest := [.int r1]) hX hK hE hH (c_X6_home  I2 (pm_home hi h1)) ck6 sh111 q4_238 q4_239 q5_0 q1_7 q5_1 hd_X6_home ⟨Nat.le_of_ble_eq_true rfl, Nat.le_of_ble_eq_true rfl⟩ ⟨rfl, rfl⟩ rfl hl.1 rfl (Nat.le_of_ble_eq_true rfl) dL_law_309 ⟨by show cells + 0 ≤ 601024; omega, by show slots + 0 ≤ 7293034; omega⟩) (fun r3 I4 H locs h2 hH => ?_)
  obtain ⟨hi2, hR⟩ := st_home hi h1 h2
  refine lv_icmp_eq (tgt := 1212) hx hb dL_law_312 (by decide) (fun hc9 => ?_) (fun hc9 => absurd (hR) hc9)
  refine W.widen (k := cells + 1) (n := slots + 6) (Nat.le_succ _) (Nat.le_add_right _ _) ?_
  exact K I4 G _ _ _ hi2 hH (lv_sub hl [0, 1, 2, 3, 4] rfl)

set_option maxRecDepth 100000 in
set_option maxHeartbeats 4000000 in
theorem k_4 (C0 : wLx p m c s a0 meth D cs ad b L xs) (hst : l.stackTraces = false) (hL : L ≤ 2048) {i cells slots : Nat} (hi4 : i + 4 ≤ L) (hc : cells + 1 ≤ 601024) (hs : slots + 6 ≤ 7293034)
    (K : ∀ (I2 : wI) (G2 : wG) (H : Heap) (locs : List Loc) (ls : Array Slot), inv I2 → wH D cs b G2 I2 s H locs → lv_has ls 9 [(4, .int (nI i)), (3, .ref (b + 124)), (2, .ref (b + 111)), (1, .ref (b + 0)), (0, .ref a0)] → W p l e room_1 s m #[Value.ref a0] below meth c H locs (cells + 1) (slots + 6) Q (F0 m 1212 ls [])) :
    ∀ (I : wI) (G : wG) (H : Heap) (locs : List Loc) (ls : Array Slot), inv I → wH D cs b G I s H locs → lv_has ls 9 [(4, .int (nI i)), (3, .ref (b + 124)), (2, .ref (b + 111)), (1, .ref (b + 0)), (0, .ref a0)] → W p l e room_1 s m #[Value.ref a0] below meth c H locs cells slots Q (F0 m 317 ls []) := by
  intro I G H locs ls hi hH hl
  obtain ⟨hX, hr, hlk, hK, hE, hN, hS0, ha0, hbb⟩ := id C0
  have hx := hX.1
  have hb := hX.2.1
  have hown := hX.2.2.2.1
  have hts := hX.2.2.2.2
  have hbA : ¬ (fun q : Nat => b ≤ q) a0 := by show ¬ b ≤ a0; rw [hbb]; exact Nat.not_le.mpr ha0
  have hin1 : vp_in (nI i + (1 : Int32)) L := by rw [i_s]; exact i_in (by omega) (by omega)
  have hin2 : vp_in (nI i + (2 : Int32)) L := by rw [l_2, i_add]; exact i_in (by omega) (by omega)
  have hin3 : vp_in (nI i + (3 : Int32)) L := by rw [l_3, i_add]; exact i_in (by omega) (by omega)
  refine lv_aload_n hx hb dL_law_317 rfl (lv_at hl 3 rfl) ?_
  refine lv_aload_n hx hb dL_law_318 rfl (lv_at hl 4 rfl) ?_
  refine lv_iload hx hb dL_law_319 (lv_at hl 0 rfl) ?_
  refine lv_iconst (v := 1) hx hb dL_law_321 (by decide) ?_
  refine lv_iadd hx hb dL_law_322 ?_
  refine va_sld hx hb hS0 ha0 hbA hH.2 hin1 dL_law_323 ?_
  refine lv_aload_n hx hb dL_law_324 rfl (lv_at hl 4 rfl) ?_
  refine lv_iload hx hb dL_law_325 (lv_at hl 0 rfl) ?_
  refine lv_iconst (v := 2) hx hb dL_law_327 (by decide) ?_
  refine lv_iadd hx hb dL_law_328 ?_
  refine va_sld hx hb hS0 ha0 hbA hH.2 hin2 dL_law_329 ?_
  refine lv_aload_n hx hb dL_law_330 rfl (lv_at hl 4 rfl) ?_
  refine lv_iload hx hb dL_law_331 (lv_at hl 0 rfl) ?_
  refine lv_iconst (v := 3) hx hb dL_law_333 (by decide) ?_
  refine lv_iadd hx hb dL_law_334 ?_
  refine va_sld hx hb hS0 ha0 hbA hH.2 hin3 dL_law_335 ?_
  refine lv_aload_n hx hb dL_law_336 rfl (lv_at hl 1 rfl) ?_
  refine w_cIL hH (w_rSW (As := [.ref (b + 0), .int (xs ((nI i) + (1 : Int32)).toNatClampNeg), .int (xs ((nI i) + (2 : Int32)).toNatClampNeg), .int (xs ((nI i) + (3 : Int32)).toNatClampNeg), .ref (b + 124)]) (rest := []) hX hK hE hN hH (c_L_cut hst (xs ((nI i) + (1 : Int32)).toNatClampNeg) (xs ((nI i) + (2 : Int32)).toNatClampNeg) (xs ((nI i) + (3 : Int32)).toNatClampNeg) I (fun h => ⟨hi.1, h⟩) (fun h => ⟨hi.1, h⟩) (fun E u h => h.2.elim (fun q => Or.inl q.2) (fun q => Or.inr q.2))) q3_209 q3_210 q1_0 q3_211 hd_L_cut ⟨Nat.le_of_ble_eq_true rfl, Nat.le_of_ble_eq_true rfl⟩ ⟨rfl, rfl⟩ rfl hl.1 rfl (Nat.le_of_ble_eq_true rfl) dL_law_337 ⟨hc, hs⟩) (fun r1 I2 G3 H locs h1 hH => ?_)
  refine lv_istore (lv' := [(5, .int r1), (4, .int (nI i)), (3, .ref (b + 124)), (2, .ref (b + 111)), (1, .ref (b + 0)), (0, .ref a0)]) hx hb dL_law_340 hl (by decide) rfl (fun ls hl => ?_)
  refine lv_aload_n hx hb dL_law_342 rfl (lv_at hl 3 rfl) ?_
  refine lv_aload_n hx hb dL_law_343 rfl (lv_at hl 5 rfl) ?_
  refine lv_iload hx hb dL_law_344 (lv_at hl 1 rfl) ?_
  refine lv_iconst (v := 1) hx hb dL_law_346 (by decide) ?_
  refine lv_iadd hx hb dL_law_347 ?_
  refine va_sld hx hb hS0 ha0 hbA hH.2 hin1 dL_law_348 ?_
  refine lv_aload_n hx hb dL_law_349 rfl (lv_at hl 5 rfl) ?_
  refine lv_iload hx hb dL_law_350 (lv_at hl 1 rfl) ?_
  refine lv_iconst (v := 2) hx hb dL_law_352 (by decide) ?_
  refine lv_iadd hx hb dL_law_353 ?_
  refine va_sld hx hb hS0 ha0 hbA hH.2 hin2 dL_law_354 ?_
  refine lv_aload_n hx hb dL_law_355 rfl (lv_at hl 5 rfl) ?_
  refine lv_iload hx hb dL_law_356 (lv_at hl 1 rfl) ?_
  refine lv_iconst (v := 3) hx hb dL_law_358 (by decide) ?_
  refine lv_iadd hx hb dL_law_359 ?_
  refine va_sld hx hb hS0 ha0 hbA hH.2 hin3 dL_law_360 ?_
  refine w_cI hH (w_rV (As := [.int (xs ((nI i) + (1 : Int32)).toNatClampNeg), .int (xs ((nI i) + (2 : Int32)).toNatClampNeg), .int (xs ((nI i) + (3 : Int32)).toNatClampNeg)]) (rest := []) hX hK hE hH (c_X6_cut (xs ((nI i) + (1 : Int32)).toNatClampNeg) (xs ((nI i) + (2 : Int32)).toNatClampNeg) (xs ((nI i) + (3 : Int32)).toNatClampNeg) I2 (pm_cut (xs ((nI i) + (1 : Int32)).toNatClampNeg) (xs ((nI i) + (2 : Int32)).toNatClampNeg) (xs ((nI i) + (3 : Int32)).toNatClampNeg) hi h1)) ck6 sh111 q5_10 q5_11 q5_12 q1_7 q5_13 hd_X6_cut ⟨Nat.le_of_ble_eq_true rfl, Nat.le_of_ble_eq_true rfl⟩ ⟨rfl, rfl⟩ rfl hl.1 rfl (Nat.le_of_ble_eq_true rfl) dL_law_361 ⟨by show cells + 1 + 0 ≤ 601024; omega, by show slots + 6 + 0 ≤ 7293034; omega⟩) (fun r4 I5 H locs h2 hH => ?_)
  obtain ⟨hi2, hT, hR⟩ := st_cut (xs ((nI i) + (1 : Int32)).toNatClampNeg) (xs ((nI i) + (2 : Int32)).toNatClampNeg) (xs ((nI i) + (3 : Int32)).toNatClampNeg) hi h1 h2
  refine lv_istore (lv' := [(6, .int r4), (5, .int r1), (4, .int (nI i)), (3, .ref (b + 124)), (2, .ref (b + 111)), (1, .ref (b + 0)), (0, .ref a0)]) hx hb dL_law_364 hl (by decide) rfl (fun ls hl => ?_)
  refine lv_aload_n hx hb dL_law_366 rfl (lv_at hl 4 rfl) ?_
  refine w_cIp hH (w_rV (As := []) (rest := []) hX hK hE hH (c_X6_thrown  I5 trivial) ck6 sh111 q4_137 q4_138 q4_139 q1_7 q4_140 hd_X6_thrown ⟨Nat.le_of_ble_eq_true rfl, Nat.le_of_ble_eq_true rfl⟩ ⟨rfl, rfl⟩ rfl hl.1 rfl (Nat.le_of_ble_eq_true rfl) dL_law_367 ⟨by show cells + 1 + 0 ≤ 601024; omega, by show slots + 6 + 0 ≤ 7293034; omega⟩) (fun r6 H locs h3 hH => ?_)
  refine lv_iload hx hb dL_law_370 (lv_at hl 1 rfl) ?_
  refine lv_icmp_eq (tgt := 377) hx hb dL_law_372 (by decide) (fun hc9 => ?_) (fun hc9 => absurd (h3.trans hT) hc9)
  refine lv_iload hx hb dL_law_377 (lv_at hl 1 rfl) ?_
  refine lv_if_ne (tgt := 394) hx hb dL_law_379 (by decide) (fun hc9 => ?_) (fun hc9 => ?_)
  · have hz := hc9
    refine lv_goto (tgt := 1212) hx hb dL_law_394 (by decide) ?_
    exact K I5 G3 _ _ _ hi2 hH (lv_sub hl [2, 3, 4, 5, 6] rfl)
  · have hR2 := hR hc9
    refine lv_aload_n hx hb dL_law_382 rfl (lv_at hl 3 rfl) ?_
    refine lv_iconst (v := 0) hx hb dL_law_383 (by decide) ?_
    refine w_lald hX hK hH dL_law_384 ?_
    refine lv_iload hx hb dL_law_385 (lv_at hl 0 rfl) ?_
    refine lv_i2l hx hb dL_law_387 rfl ?_
    refine W.lcmp hx hb dL_law_388 ?_
    refine lv_if_eq (tgt := 394) hx hb dL_law_389 (by decide) (fun hc8 => ?_) (fun hc8 => absurd ((lg_cmp_eq _ _).mpr hR2) hc8)
    refine lv_goto (tgt := 1212) hx hb dL_law_394 (by decide) ?_
    exact K I5 G3 _ _ _ hi2 hH (lv_sub hl [2, 3, 4, 5, 6] rfl)

set_option maxRecDepth 100000 in
set_option maxHeartbeats 4000000 in
theorem k_5 (C0 : wLx p m c s a0 meth D cs ad b L xs) (hst : l.stackTraces = false) (hL : L ≤ 2048) {i cells slots : Nat} (hi4 : i + 4 ≤ L) (hc : cells + 1 ≤ 601024) (hs : slots + 6 ≤ 7293034)
    (K : ∀ (I2 : wI) (G2 : wG) (H : Heap) (locs : List Loc) (ls : Array Slot), inv I2 → wH D cs b G2 I2 s H locs → lv_has ls 9 [(4, .int (nI i)), (3, .ref (b + 124)), (2, .ref (b + 111)), (1, .ref (b + 0)), (0, .ref a0)] → W p l e room_1 s m #[Value.ref a0] below meth c H locs (cells + 1) (slots + 6) Q (F0 m 1212 ls [])) :
    ∀ (I : wI) (G : wG) (H : Heap) (locs : List Loc) (ls : Array Slot), inv I → wH D cs b G I s H locs → lv_has ls 9 [(4, .int (nI i)), (3, .ref (b + 124)), (2, .ref (b + 111)), (1, .ref (b + 0)), (0, .ref a0)] → W p l e room_1 s m #[Value.ref a0] below meth c H locs cells slots Q (F0 m 397 ls []) := by
  intro I G H locs ls hi hH hl
  obtain ⟨hX, hr, hlk, hK, hE, hN, hS0, ha0, hbb⟩ := id C0
  have hx := hX.1
  have hb := hX.2.1
  have hown := hX.2.2.2.1
  have hts := hX.2.2.2.2
  have hbA : ¬ (fun q : Nat => b ≤ q) a0 := by show ¬ b ≤ a0; rw [hbb]; exact Nat.not_le.mpr ha0
  have hin1 : vp_in (nI i + (1 : Int32)) L := by rw [i_s]; exact i_in (by omega) (by omega)
  have hin2 : vp_in (nI i + (2 : Int32)) L := by rw [l_2, i_add]; exact i_in (by omega) (by omega)
  have hin3 : vp_in (nI i + (3 : Int32)) L := by rw [l_3, i_add]; exact i_in (by omega) (by omega)
  refine lv_aload_n hx hb dL_law_397 rfl (lv_at hl 3 rfl) ?_
  refine lv_aload_n hx hb dL_law_398 rfl (lv_at hl 4 rfl) ?_
  refine lv_iload hx hb dL_law_399 (lv_at hl 0 rfl) ?_
  refine lv_iconst (v := 1) hx hb dL_law_401 (by decide) ?_
  refine lv_iadd hx hb dL_law_402 ?_
  refine va_sld hx hb hS0 ha0 hbA hH.2 hin1 dL_law_403 ?_
  refine lv_aload_n hx hb dL_law_404 rfl (lv_at hl 1 rfl) ?_
  refine w_cIL hH (w_rSW (As := [.ref (b + 0), .int (xs ((nI i) + (1 : Int32)).toNatClampNeg), .ref (b + 124)]) (rest := []) hX hK hE hN hH (c_L_stick hst (xs ((nI i) + (1 : Int32)).toNatClampNeg) I (fun h => ⟨hi.1, h⟩) (fun h => ⟨hi.1, h⟩) (fun E u h => h.2)) q3_224 q3_225 q1_0 q3_226 hd_L_stick ⟨Nat.le_of_ble_eq_true rfl, Nat.le_of_ble_eq_true rfl⟩ ⟨rfl, rfl⟩ rfl hl.1 rfl (Nat.le_of_ble_eq_true rfl) dL_law_405 ⟨hc, hs⟩) (fun r1 I2 G3 H locs h1 hH => ?_)
  refine lv_istore (lv' := [(5, .int r1), (4, .int (nI i)), (3, .ref (b + 124)), (2, .ref (b + 111)), (1, .ref (b + 0)), (0, .ref a0)]) hx hb dL_law_408 hl (by decide) rfl (fun ls hl => ?_)
  refine lv_aload_n hx hb dL_law_410 rfl (lv_at hl 3 rfl) ?_
  refine lv_aload_n hx hb dL_law_411 rfl (lv_at hl 5 rfl) ?_
  refine lv_iload hx hb dL_law_412 (lv_at hl 1 rfl) ?_
  refine lv_iconst (v := 1) hx hb dL_law_414 (by decide) ?_
  refine lv_iadd hx hb dL_law_415 ?_
  refine va_sld hx hb hS0 ha0 hbA hH.2 hin1 dL_law_416 ?_
  refine w_cI hH (w_rV (As := [.int (xs ((nI i) + (1 : Int32)).toNatClampNeg)]) (rest := []) hX hK hE hH (c_X6_stick (xs ((nI i) + (1 : Int32)).toNatClampNeg) I2 (pm_stick (xs ((nI i) + (1 : Int32)).toNatClampNeg) hi h1)) ck6 sh111 q5_14 q5_15 q5_16 q1_7 q5_17 hd_X6_stick ⟨Nat.le_of_ble_eq_true rfl, Nat.le_of_ble_eq_true rfl⟩ ⟨rfl, rfl⟩ rfl hl.1 rfl (Nat.le_of_ble_eq_true rfl) dL_law_417 ⟨by show cells + 1 + 0 ≤ 601024; omega, by show slots + 6 + 0 ≤ 7293034; omega⟩) (fun r4 I5 H locs h2 hH => ?_)
  obtain ⟨hi2, hT, hR⟩ := st_stick (xs ((nI i) + (1 : Int32)).toNatClampNeg) hi h1 h2
  refine lv_istore (lv' := [(6, .int r4), (5, .int r1), (4, .int (nI i)), (3, .ref (b + 124)), (2, .ref (b + 111)), (1, .ref (b + 0)), (0, .ref a0)]) hx hb dL_law_420 hl (by decide) rfl (fun ls hl => ?_)
  refine lv_aload_n hx hb dL_law_422 rfl (lv_at hl 4 rfl) ?_
  refine w_cIp hH (w_rV (As := []) (rest := []) hX hK hE hH (c_X6_thrown  I5 trivial) ck6 sh111 q4_137 q4_138 q4_139 q1_7 q4_140 hd_X6_thrown ⟨Nat.le_of_ble_eq_true rfl, Nat.le_of_ble_eq_true rfl⟩ ⟨rfl, rfl⟩ rfl hl.1 rfl (Nat.le_of_ble_eq_true rfl) dL_law_423 ⟨by show cells + 1 + 0 ≤ 601024; omega, by show slots + 6 + 0 ≤ 7293034; omega⟩) (fun r6 H locs h3 hH => ?_)
  refine lv_iload hx hb dL_law_426 (lv_at hl 1 rfl) ?_
  refine lv_icmp_eq (tgt := 433) hx hb dL_law_428 (by decide) (fun hc9 => ?_) (fun hc9 => absurd (h3.trans hT) hc9)
  refine lv_iload hx hb dL_law_433 (lv_at hl 1 rfl) ?_
  refine lv_if_ne (tgt := 450) hx hb dL_law_435 (by decide) (fun hc9 => ?_) (fun hc9 => ?_)
  · have hz := hc9
    refine lv_goto (tgt := 1212) hx hb dL_law_450 (by decide) ?_
    exact K I5 G3 _ _ _ hi2 hH (lv_sub hl [2, 3, 4, 5, 6] rfl)
  · have hR2 := hR hc9
    refine lv_aload_n hx hb dL_law_438 rfl (lv_at hl 3 rfl) ?_
    refine lv_iconst (v := 0) hx hb dL_law_439 (by decide) ?_
    refine w_lald hX hK hH dL_law_440 ?_
    refine lv_iload hx hb dL_law_441 (lv_at hl 0 rfl) ?_
    refine lv_i2l hx hb dL_law_443 rfl ?_
    refine W.lcmp hx hb dL_law_444 ?_
    refine lv_if_eq (tgt := 450) hx hb dL_law_445 (by decide) (fun hc8 => ?_) (fun hc8 => absurd ((lg_cmp_eq _ _).mpr hR2) hc8)
    refine lv_goto (tgt := 1212) hx hb dL_law_450 (by decide) ?_
    exact K I5 G3 _ _ _ hi2 hH (lv_sub hl [2, 3, 4, 5, 6] rfl)

set_option maxRecDepth 100000 in
set_option maxHeartbeats 4000000 in
theorem k_6 (C0 : wLx p m c s a0 meth D cs ad b L xs) (hst : l.stackTraces = false) (hL : L ≤ 2048) {i cells slots : Nat} (hi4 : i + 4 ≤ L) (hc : cells + 1 ≤ 601024) (hs : slots + 6 ≤ 7293034)
    (K : ∀ (I2 : wI) (G2 : wG) (H : Heap) (locs : List Loc) (ls : Array Slot), inv I2 → wH D cs b G2 I2 s H locs → lv_has ls 9 [(4, .int (nI i)), (3, .ref (b + 124)), (2, .ref (b + 111)), (1, .ref (b + 0)), (0, .ref a0)] → W p l e room_1 s m #[Value.ref a0] below meth c H locs (cells + 1) (slots + 6) Q (F0 m 1212 ls [])) :
    ∀ (I : wI) (G : wG) (H : Heap) (locs : List Loc) (ls : Array Slot), inv I → wH D cs b G I s H locs → lv_has ls 9 [(4, .int (nI i)), (3, .ref (b + 124)), (2, .ref (b + 111)), (1, .ref (b + 0)), (0, .ref a0)] → W p l e room_1 s m #[Value.ref a0] below meth c H locs cells slots Q (F0 m 453 ls []) := by
  intro I G H locs ls hi hH hl
  obtain ⟨hX, hr, hlk, hK, hE, hN, hS0, ha0, hbb⟩ := id C0
  have hx := hX.1
  have hb := hX.2.1
  have hown := hX.2.2.2.1
  have hts := hX.2.2.2.2
  have hbA : ¬ (fun q : Nat => b ≤ q) a0 := by show ¬ b ≤ a0; rw [hbb]; exact Nat.not_le.mpr ha0
  have hin1 : vp_in (nI i + (1 : Int32)) L := by rw [i_s]; exact i_in (by omega) (by omega)
  have hin2 : vp_in (nI i + (2 : Int32)) L := by rw [l_2, i_add]; exact i_in (by omega) (by omega)
  have hin3 : vp_in (nI i + (3 : Int32)) L := by rw [l_3, i_add]; exact i_in (by omega) (by omega)
  refine lv_aload_n hx hb dL_law_453 rfl (lv_at hl 3 rfl) ?_
  refine w_cI hH (w_rV (As := []) (rest := []) hX hK hE hH (c_X5_learn  I hi.1) ck5 sh0 q2_8 q2_9 q2_10 q1_1 q2_11 hd_X5_learn ⟨Nat.le_of_ble_eq_true rfl, Nat.le_of_ble_eq_true rfl⟩ ⟨rfl, rfl⟩ rfl hl.1 rfl (Nat.le_of_ble_eq_true rfl) dL_law_454 ⟨by show cells + 0 ≤ 601024; omega, by show slots + 0 ≤ 7293034; omega⟩) (fun r1 I2 H locs h1 hH => ?_)
  refine lv_aload_n hx hb dL_law_457 rfl (lv_at hl 2 rfl) ?_
  refine w_cI hH (w_rV (As := []) (rest := [.int r1]) hX hK hE hH (c_X6_learn  I2 (pm_learn hi h1)) ck6 sh111 q5_25 q5_26 q5_27 q1_7 q5_28 hd_X6_learn ⟨Nat.le_of_ble_eq_true rfl, Nat.le_of_ble_eq_true rfl⟩ ⟨rfl, rfl⟩ rfl hl.1 rfl (Nat.le_of_ble_eq_true rfl) dL_law_458 ⟨by show cells + 0 ≤ 601024; omega, by show slots + 0 ≤ 7293034; omega⟩) (fun r3 I4 H locs h2 hH => ?_)
  obtain ⟨hi2, hR⟩ := st_learn hi h1 h2
  refine lv_icmp_eq (tgt := 1212) hx hb dL_law_461 (by decide) (fun hc9 => ?_) (fun hc9 => absurd (hR) hc9)
  refine W.widen (k := cells + 1) (n := slots + 6) (Nat.le_succ _) (Nat.le_add_right _ _) ?_
  exact K I4 G _ _ _ hi2 hH (lv_sub hl [0, 1, 2, 3, 4] rfl)

set_option maxRecDepth 100000 in
set_option maxHeartbeats 4000000 in
theorem k_7 (C0 : wLx p m c s a0 meth D cs ad b L xs) (hst : l.stackTraces = false) (hL : L ≤ 2048) {i cells slots : Nat} (hi4 : i + 4 ≤ L) (hc : cells + 1 ≤ 601024) (hs : slots + 6 ≤ 7293034)
    (K : ∀ (I2 : wI) (G2 : wG) (H : Heap) (locs : List Loc) (ls : Array Slot), inv I2 → wH D cs b G2 I2 s H locs → lv_has ls 9 [(4, .int (nI i)), (3, .ref (b + 124)), (2, .ref (b + 111)), (1, .ref (b + 0)), (0, .ref a0)] → W p l e room_1 s m #[Value.ref a0] below meth c H locs (cells + 1) (slots + 6) Q (F0 m 1212 ls [])) :
    ∀ (I : wI) (G : wG) (H : Heap) (locs : List Loc) (ls : Array Slot), inv I → wH D cs b G I s H locs → lv_has ls 9 [(4, .int (nI i)), (3, .ref (b + 124)), (2, .ref (b + 111)), (1, .ref (b + 0)), (0, .ref a0)] → W p l e room_1 s m #[Value.ref a0] below meth c H locs cells slots Q (F0 m 466 ls []) := by
  intro I G H locs ls hi hH hl
  obtain ⟨hX, hr, hlk, hK, hE, hN, hS0, ha0, hbb⟩ := id C0
  have hx := hX.1
  have hb := hX.2.1
  have hown := hX.2.2.2.1
  have hts := hX.2.2.2.2
  have hbA : ¬ (fun q : Nat => b ≤ q) a0 := by show ¬ b ≤ a0; rw [hbb]; exact Nat.not_le.mpr ha0
  have hin1 : vp_in (nI i + (1 : Int32)) L := by rw [i_s]; exact i_in (by omega) (by omega)
  have hin2 : vp_in (nI i + (2 : Int32)) L := by rw [l_2, i_add]; exact i_in (by omega) (by omega)
  have hin3 : vp_in (nI i + (3 : Int32)) L := by rw [l_3, i_add]; exact i_in (by omega) (by omega)
  refine lv_aload_n hx hb dL_law_466 rfl (lv_at hl 3 rfl) ?_
  refine lv_aload_n hx hb dL_law_467 rfl (lv_at hl 4 rfl) ?_
  refine lv_iload hx hb dL_law_468 (lv_at hl 0 rfl) ?_
  refine lv_iconst (v := 1) hx hb dL_law_470 (by decide) ?_
  refine lv_iadd hx hb dL_law_471 ?_
  refine va_sld hx hb hS0 ha0 hbA hH.2 hin1 dL_law_472 ?_
  refine lv_aload_n hx hb dL_law_473 rfl (lv_at hl 1 rfl) ?_
  refine w_cIL hH (w_rSW (As := [.ref (b + 0), .int (xs ((nI i) + (1 : Int32)).toNatClampNeg), .ref (b + 124)]) (rest := []) hX hK hE hN hH (c_L_append hst (xs ((nI i) + (1 : Int32)).toNatClampNeg) I (fun h => ⟨hi.1, h⟩) (fun h => ⟨hi.1, h⟩) (fun E u h => h.2.elim (fun q => Or.inl q.2) (fun q => Or.inr q.2))) q3_231 q3_232 q1_0 q3_233 hd_L_append ⟨Nat.le_of_ble_eq_true rfl, Nat.le_of_ble_eq_true rfl⟩ ⟨rfl, rfl⟩ rfl hl.1 rfl (Nat.le_of_ble_eq_true rfl) dL_law_474 ⟨hc, hs⟩) (fun r1 I2 G3 H locs h1 hH => ?_)
  refine lv_istore (lv' := [(5, .int r1), (4, .int (nI i)), (3, .ref (b + 124)), (2, .ref (b + 111)), (1, .ref (b + 0)), (0, .ref a0)]) hx hb dL_law_477 hl (by decide) rfl (fun ls hl => ?_)
  refine lv_aload_n hx hb dL_law_479 rfl (lv_at hl 3 rfl) ?_
  refine lv_aload_n hx hb dL_law_480 rfl (lv_at hl 5 rfl) ?_
  refine lv_iload hx hb dL_law_481 (lv_at hl 1 rfl) ?_
  refine lv_iconst (v := 1) hx hb dL_law_483 (by decide) ?_
  refine lv_iadd hx hb dL_law_484 ?_
  refine va_sld hx hb hS0 ha0 hbA hH.2 hin1 dL_law_485 ?_
  refine w_cI hH (w_rV (As := [.int (xs ((nI i) + (1 : Int32)).toNatClampNeg)]) (rest := []) hX hK hE hH (c_X6_append (xs ((nI i) + (1 : Int32)).toNatClampNeg) I2 (pm_append (xs ((nI i) + (1 : Int32)).toNatClampNeg) hi h1)) ck6 sh111 q5_33 q5_34 q5_35 q1_7 q5_36 hd_X6_append ⟨Nat.le_of_ble_eq_true rfl, Nat.le_of_ble_eq_true rfl⟩ ⟨rfl, rfl⟩ rfl hl.1 rfl (Nat.le_of_ble_eq_true rfl) dL_law_486 ⟨by show cells + 1 + 0 ≤ 601024; omega, by show slots + 6 + 0 ≤ 7293034; omega⟩) (fun r4 I5 H locs h2 hH => ?_)
  obtain ⟨hi2, hT, hR⟩ := st_append (xs ((nI i) + (1 : Int32)).toNatClampNeg) hi h1 h2
  refine lv_istore (lv' := [(6, .int r4), (5, .int r1), (4, .int (nI i)), (3, .ref (b + 124)), (2, .ref (b + 111)), (1, .ref (b + 0)), (0, .ref a0)]) hx hb dL_law_489 hl (by decide) rfl (fun ls hl => ?_)
  refine lv_aload_n hx hb dL_law_491 rfl (lv_at hl 4 rfl) ?_
  refine w_cIp hH (w_rV (As := []) (rest := []) hX hK hE hH (c_X6_thrown  I5 trivial) ck6 sh111 q4_137 q4_138 q4_139 q1_7 q4_140 hd_X6_thrown ⟨Nat.le_of_ble_eq_true rfl, Nat.le_of_ble_eq_true rfl⟩ ⟨rfl, rfl⟩ rfl hl.1 rfl (Nat.le_of_ble_eq_true rfl) dL_law_492 ⟨by show cells + 1 + 0 ≤ 601024; omega, by show slots + 6 + 0 ≤ 7293034; omega⟩) (fun r6 H locs h3 hH => ?_)
  refine lv_iload hx hb dL_law_495 (lv_at hl 1 rfl) ?_
  refine lv_icmp_eq (tgt := 502) hx hb dL_law_497 (by decide) (fun hc9 => ?_) (fun hc9 => absurd (h3.trans hT) hc9)
  refine lv_iload hx hb dL_law_502 (lv_at hl 1 rfl) ?_
  refine lv_if_ne (tgt := 519) hx hb dL_law_504 (by decide) (fun hc9 => ?_) (fun hc9 => ?_)
  · have hz := hc9
    refine lv_goto (tgt := 1212) hx hb dL_law_519 (by decide) ?_
    exact K I5 G3 _ _ _ hi2 hH (lv_sub hl [2, 3, 4, 5, 6] rfl)
  · have hR2 := hR hc9
    refine lv_aload_n hx hb dL_law_507 rfl (lv_at hl 3 rfl) ?_
    refine lv_iconst (v := 0) hx hb dL_law_508 (by decide) ?_
    refine w_lald hX hK hH dL_law_509 ?_
    refine lv_iload hx hb dL_law_510 (lv_at hl 0 rfl) ?_
    refine lv_i2l hx hb dL_law_512 rfl ?_
    refine W.lcmp hx hb dL_law_513 ?_
    refine lv_if_eq (tgt := 519) hx hb dL_law_514 (by decide) (fun hc8 => ?_) (fun hc8 => absurd ((lg_cmp_eq _ _).mpr hR2) hc8)
    refine lv_goto (tgt := 1212) hx hb dL_law_519 (by decide) ?_
    exact K I5 G3 _ _ _ hi2 hH (lv_sub hl [2, 3, 4, 5, 6] rfl)

set_option maxRecDepth 100000 in
set_option maxHeartbeats 4000000 in
theorem k_8 (C0 : wLx p m c s a0 meth D cs ad b L xs) (hst : l.stackTraces = false) (hL : L ≤ 2048) {i cells slots : Nat} (hi4 : i + 4 ≤ L) (hc : cells + 1 ≤ 601024) (hs : slots + 6 ≤ 7293034)
    (K : ∀ (I2 : wI) (G2 : wG) (H : Heap) (locs : List Loc) (ls : Array Slot), inv I2 → wH D cs b G2 I2 s H locs → lv_has ls 9 [(4, .int (nI i)), (3, .ref (b + 124)), (2, .ref (b + 111)), (1, .ref (b + 0)), (0, .ref a0)] → W p l e room_1 s m #[Value.ref a0] below meth c H locs (cells + 1) (slots + 6) Q (F0 m 1212 ls [])) :
    ∀ (I : wI) (G : wG) (H : Heap) (locs : List Loc) (ls : Array Slot), inv I → wH D cs b G I s H locs → lv_has ls 9 [(4, .int (nI i)), (3, .ref (b + 124)), (2, .ref (b + 111)), (1, .ref (b + 0)), (0, .ref a0)] → W p l e room_1 s m #[Value.ref a0] below meth c H locs cells slots Q (F0 m 522 ls []) := by
  intro I G H locs ls hi hH hl
  obtain ⟨hX, hr, hlk, hK, hE, hN, hS0, ha0, hbb⟩ := id C0
  have hx := hX.1
  have hb := hX.2.1
  have hown := hX.2.2.2.1
  have hts := hX.2.2.2.2
  have hbA : ¬ (fun q : Nat => b ≤ q) a0 := by show ¬ b ≤ a0; rw [hbb]; exact Nat.not_le.mpr ha0
  have hin1 : vp_in (nI i + (1 : Int32)) L := by rw [i_s]; exact i_in (by omega) (by omega)
  have hin2 : vp_in (nI i + (2 : Int32)) L := by rw [l_2, i_add]; exact i_in (by omega) (by omega)
  have hin3 : vp_in (nI i + (3 : Int32)) L := by rw [l_3, i_add]; exact i_in (by omega) (by omega)
  refine lv_aload_n hx hb dL_law_522 rfl (lv_at hl 3 rfl) ?_
  refine w_cI hH (w_rV (As := []) (rest := []) hX hK hE hH (c_X5_clearBuffer  I hi.1) ck5 sh0 q2_17 q2_18 q2_19 q1_1 q2_20 hd_X5_clearBuffer ⟨Nat.le_of_ble_eq_true rfl, Nat.le_of_ble_eq_true rfl⟩ ⟨rfl, rfl⟩ rfl hl.1 rfl (Nat.le_of_ble_eq_true rfl) dL_law_523 ⟨by show cells + 0 ≤ 601024; omega, by show slots + 0 ≤ 7293034; omega⟩) (fun r1 I2 H locs h1 hH => ?_)
  refine lv_aload_n hx hb dL_law_526 rfl (lv_at hl 2 rfl) ?_
  refine w_cI hH (w_rV (As := []) (rest := [.int r1]) hX hK hE hH (c_X6_clearBuffer  I2 (pm_clearBuffer hi h1)) ck6 sh111 q5_37 q5_38 q5_39 q1_7 q5_40 hd_X6_clearBuffer ⟨Nat.le_of_ble_eq_true rfl, Nat.le_of_ble_eq_true rfl⟩ ⟨rfl, rfl⟩ rfl hl.1 rfl (Nat.le_of_ble_eq_true rfl) dL_law_527 ⟨by show cells + 0 ≤ 601024; omega, by show slots + 0 ≤ 7293034; omega⟩) (fun r3 I4 H locs h2 hH => ?_)
  obtain ⟨hi2, hR⟩ := st_clearBuffer hi h1 h2
  refine lv_icmp_eq (tgt := 1212) hx hb dL_law_530 (by decide) (fun hc9 => ?_) (fun hc9 => absurd (hR) hc9)
  refine W.widen (k := cells + 1) (n := slots + 6) (Nat.le_succ _) (Nat.le_add_right _ _) ?_
  exact K I4 G _ _ _ hi2 hH (lv_sub hl [0, 1, 2, 3, 4] rfl)

set_option maxRecDepth 100000 in
set_option maxHeartbeats 4000000 in
theorem k_9 (C0 : wLx p m c s a0 meth D cs ad b L xs) (hst : l.stackTraces = false) (hL : L ≤ 2048) {i cells slots : Nat} (hi4 : i + 4 ≤ L) (hc : cells + 1 ≤ 601024) (hs : slots + 6 ≤ 7293034)
    (K : ∀ (I2 : wI) (G2 : wG) (H : Heap) (locs : List Loc) (ls : Array Slot), inv I2 → wH D cs b G2 I2 s H locs → lv_has ls 9 [(4, .int (nI i)), (3, .ref (b + 124)), (2, .ref (b + 111)), (1, .ref (b + 0)), (0, .ref a0)] → W p l e room_1 s m #[Value.ref a0] below meth c H locs (cells + 1) (slots + 6) Q (F0 m 1212 ls [])) :
    ∀ (I : wI) (G : wG) (H : Heap) (locs : List Loc) (ls : Array Slot), inv I → wH D cs b G I s H locs → lv_has ls 9 [(4, .int (nI i)), (3, .ref (b + 124)), (2, .ref (b + 111)), (1, .ref (b + 0)), (0, .ref a0)] → W p l e room_1 s m #[Value.ref a0] below meth c H locs cells slots Q (F0 m 535 ls []) := by
  intro I G H locs ls hi hH hl
  obtain ⟨hX, hr, hlk, hK, hE, hN, hS0, ha0, hbb⟩ := id C0
  have hx := hX.1
  have hb := hX.2.1
  have hown := hX.2.2.2.1
  have hts := hX.2.2.2.2
  have hbA : ¬ (fun q : Nat => b ≤ q) a0 := by show ¬ b ≤ a0; rw [hbb]; exact Nat.not_le.mpr ha0
  have hin1 : vp_in (nI i + (1 : Int32)) L := by rw [i_s]; exact i_in (by omega) (by omega)
  have hin2 : vp_in (nI i + (2 : Int32)) L := by rw [l_2, i_add]; exact i_in (by omega) (by omega)
  have hin3 : vp_in (nI i + (3 : Int32)) L := by rw [l_3, i_add]; exact i_in (by omega) (by omega)
  refine lv_aload_n hx hb dL_law_535 rfl (lv_at hl 3 rfl) ?_
  refine w_cI hH (w_rV (As := []) (rest := []) hX hK hE hH (c_X5_firstError  I hi.1) ck5 sh0 q2_21 q2_22 q2_23 q1_1 q2_24 hd_X5_firstError ⟨Nat.le_of_ble_eq_true rfl, Nat.le_of_ble_eq_true rfl⟩ ⟨rfl, rfl⟩ rfl hl.1 rfl (Nat.le_of_ble_eq_true rfl) dL_law_536 ⟨by show cells + 0 ≤ 601024; omega, by show slots + 0 ≤ 7293034; omega⟩) (fun r1 I2 H locs h1 hH => ?_)
  refine lv_aload_n hx hb dL_law_539 rfl (lv_at hl 2 rfl) ?_
  refine w_cI hH (w_rV (As := []) (rest := [.int r1]) hX hK hE hH (c_X6_firstError  I2 (pm_firstError hi h1)) ck6 sh111 q5_41 q5_42 q5_43 q1_7 q5_44 hd_X6_firstError ⟨Nat.le_of_ble_eq_true rfl, Nat.le_of_ble_eq_true rfl⟩ ⟨rfl, rfl⟩ rfl hl.1 rfl (Nat.le_of_ble_eq_true rfl) dL_law_540 ⟨by show cells + 0 ≤ 601024; omega, by show slots + 0 ≤ 7293034; omega⟩) (fun r3 I4 H locs h2 hH => ?_)
  obtain ⟨hi2, hR⟩ := st_firstError hi h1 h2
  refine lv_icmp_eq (tgt := 1212) hx hb dL_law_543 (by decide) (fun hc9 => ?_) (fun hc9 => absurd (hR) hc9)
  refine W.widen (k := cells + 1) (n := slots + 6) (Nat.le_succ _) (Nat.le_add_right _ _) ?_
  exact K I4 G _ _ _ hi2 hH (lv_sub hl [0, 1, 2, 3, 4] rfl)

set_option maxRecDepth 100000 in
set_option maxHeartbeats 4000000 in
theorem k_10 (C0 : wLx p m c s a0 meth D cs ad b L xs) (hst : l.stackTraces = false) (hL : L ≤ 2048) {i cells slots : Nat} (hi4 : i + 4 ≤ L) (hc : cells + 1 ≤ 601024) (hs : slots + 6 ≤ 7293034)
    (K : ∀ (I2 : wI) (G2 : wG) (H : Heap) (locs : List Loc) (ls : Array Slot), inv I2 → wH D cs b G2 I2 s H locs → lv_has ls 9 [(4, .int (nI i)), (3, .ref (b + 124)), (2, .ref (b + 111)), (1, .ref (b + 0)), (0, .ref a0)] → W p l e room_1 s m #[Value.ref a0] below meth c H locs (cells + 1) (slots + 6) Q (F0 m 1212 ls [])) :
    ∀ (I : wI) (G : wG) (H : Heap) (locs : List Loc) (ls : Array Slot), inv I → wH D cs b G I s H locs → lv_has ls 9 [(4, .int (nI i)), (3, .ref (b + 124)), (2, .ref (b + 111)), (1, .ref (b + 0)), (0, .ref a0)] → W p l e room_1 s m #[Value.ref a0] below meth c H locs cells slots Q (F0 m 548 ls []) := by
  intro I G H locs ls hi hH hl
  obtain ⟨hX, hr, hlk, hK, hE, hN, hS0, ha0, hbb⟩ := id C0
  have hx := hX.1
  have hb := hX.2.1
  have hown := hX.2.2.2.1
  have hts := hX.2.2.2.2
  have hbA : ¬ (fun q : Nat => b ≤ q) a0 := by show ¬ b ≤ a0; rw [hbb]; exact Nat.not_le.mpr ha0
  have hin1 : vp_in (nI i + (1 : Int32)) L := by rw [i_s]; exact i_in (by omega) (by omega)
  have hin2 : vp_in (nI i + (2 : Int32)) L := by rw [l_2, i_add]; exact i_in (by omega) (by omega)
  have hin3 : vp_in (nI i + (3 : Int32)) L := by rw [l_3, i_add]; exact i_in (by omega) (by omega)
  refine lv_aload_n hx hb dL_law_548 rfl (lv_at hl 3 rfl) ?_
  refine w_cI hH (w_rV (As := []) (rest := []) hX hK hE hH (c_X5_keep  I hi.1) ck5 sh0 q2_82 q2_83 q2_84 q1_1 q2_85 hd_X5_keep ⟨Nat.le_of_ble_eq_true rfl, Nat.le_of_ble_eq_true rfl⟩ ⟨rfl, rfl⟩ rfl hl.1 rfl (Nat.le_of_ble_eq_true rfl) dL_law_549 ⟨by show cells + 0 ≤ 601024; omega, by show slots + 0 ≤ 7293034; omega⟩) (fun r1 I2 H locs h1 hH => ?_)
  refine lv_aload_n hx hb dL_law_552 rfl (lv_at hl 2 rfl) ?_
  refine w_cI hH (w_rV (As := []) (rest := [.int r1]) hX hK hE hH (c_X6_keep  I2 (pm_keep hi h1)) ck6 sh111 q4_145 q4_146 q4_147 q1_7 q4_148 hd_X6_keep ⟨Nat.le_of_ble_eq_true rfl, Nat.le_of_ble_eq_true rfl⟩ ⟨rfl, rfl⟩ rfl hl.1 rfl (Nat.le_of_ble_eq_true rfl) dL_law_553 ⟨by show cells + 0 ≤ 601024; omega, by show slots + 0 ≤ 7293034; omega⟩) (fun r3 I4 H locs h2 hH => ?_)
  obtain ⟨hi2, hR⟩ := st_keep hi h1 h2
  refine lv_icmp_eq (tgt := 1212) hx hb dL_law_556 (by decide) (fun hc9 => ?_) (fun hc9 => absurd (hR) hc9)
  refine W.widen (k := cells + 1) (n := slots + 6) (Nat.le_succ _) (Nat.le_add_right _ _) ?_
  exact K I4 G _ _ _ hi2 hH (lv_sub hl [0, 1, 2, 3, 4] rfl)

set_option maxRecDepth 100000 in
set_option maxHeartbeats 4000000 in
theorem k_11 (C0 : wLx p m c s a0 meth D cs ad b L xs) (hst : l.stackTraces = false) (hL : L ≤ 2048) {i cells slots : Nat} (hi4 : i + 4 ≤ L) (hc : cells + 1 ≤ 601024) (hs : slots + 6 ≤ 7293034)
    (K : ∀ (I2 : wI) (G2 : wG) (H : Heap) (locs : List Loc) (ls : Array Slot), inv I2 → wH D cs b G2 I2 s H locs → lv_has ls 9 [(4, .int (nI i)), (3, .ref (b + 124)), (2, .ref (b + 111)), (1, .ref (b + 0)), (0, .ref a0)] → W p l e room_1 s m #[Value.ref a0] below meth c H locs (cells + 1) (slots + 6) Q (F0 m 1212 ls [])) :
    ∀ (I : wI) (G : wG) (H : Heap) (locs : List Loc) (ls : Array Slot), inv I → wH D cs b G I s H locs → lv_has ls 9 [(4, .int (nI i)), (3, .ref (b + 124)), (2, .ref (b + 111)), (1, .ref (b + 0)), (0, .ref a0)] → W p l e room_1 s m #[Value.ref a0] below meth c H locs cells slots Q (F0 m 561 ls []) := by
  intro I G H locs ls hi hH hl
  obtain ⟨hX, hr, hlk, hK, hE, hN, hS0, ha0, hbb⟩ := id C0
  have hx := hX.1
  have hb := hX.2.1
  have hown := hX.2.2.2.1
  have hts := hX.2.2.2.2
  have hbA : ¬ (fun q : Nat => b ≤ q) a0 := by show ¬ b ≤ a0; rw [hbb]; exact Nat.not_le.mpr ha0
  have hin1 : vp_in (nI i + (1 : Int32)) L := by rw [i_s]; exact i_in (by omega) (by omega)
  have hin2 : vp_in (nI i + (2 : Int32)) L := by rw [l_2, i_add]; exact i_in (by omega) (by omega)
  have hin3 : vp_in (nI i + (3 : Int32)) L := by rw [l_3, i_add]; exact i_in (by omega) (by omega)
  refine lv_aload_n hx hb dL_law_561 rfl (lv_at hl 3 rfl) ?_
  refine lv_aload_n hx hb dL_law_562 rfl (lv_at hl 1 rfl) ?_
  refine w_cIL hH (w_rSW (As := [.ref (b + 0), .ref (b + 124)]) (rest := []) hX hK hE hN hH (c_L_goBack hst  I (fun h => ⟨hi.1, h⟩) (fun h => ⟨hi.1, h⟩) (fun E u h => h.2)) q4_4 q4_5 q1_0 q4_6 hd_L_goBack ⟨Nat.le_of_ble_eq_true rfl, Nat.le_of_ble_eq_true rfl⟩ ⟨rfl, rfl⟩ rfl hl.1 rfl (Nat.le_of_ble_eq_true rfl) dL_law_563 ⟨hc, hs⟩) (fun r1 I2 G3 H locs h1 hH => ?_)
  refine lv_istore (lv' := [(5, .int r1), (4, .int (nI i)), (3, .ref (b + 124)), (2, .ref (b + 111)), (1, .ref (b + 0)), (0, .ref a0)]) hx hb dL_law_566 hl (by decide) rfl (fun ls hl => ?_)
  refine lv_aload_n hx hb dL_law_568 rfl (lv_at hl 3 rfl) ?_
  refine w_cI hH (w_rV (As := []) (rest := []) hX hK hE hH (c_X6_goBack  I2 (pm_goBack hi h1)) ck6 sh111 q4_149 q4_150 q4_151 q1_7 q4_152 hd_X6_goBack ⟨Nat.le_of_ble_eq_true rfl, Nat.le_of_ble_eq_true rfl⟩ ⟨rfl, rfl⟩ rfl hl.1 rfl (Nat.le_of_ble_eq_true rfl) dL_law_569 ⟨by show cells + 1 + 0 ≤ 601024; omega, by show slots + 6 + 0 ≤ 7293034; omega⟩) (fun r4 I5 H locs h2 hH => ?_)
  obtain ⟨hi2, hT, hR⟩ := st_goBack  hi h1 h2
  refine lv_istore (lv' := [(6, .int r4), (5, .int r1), (4, .int (nI i)), (3, .ref (b + 124)), (2, .ref (b + 111)), (1, .ref (b + 0)), (0, .ref a0)]) hx hb dL_law_572 hl (by decide) rfl (fun ls hl => ?_)
  refine lv_aload_n hx hb dL_law_574 rfl (lv_at hl 4 rfl) ?_
  refine w_cIp hH (w_rV (As := []) (rest := []) hX hK hE hH (c_X6_thrown  I5 trivial) ck6 sh111 q4_137 q4_138 q4_139 q1_7 q4_140 hd_X6_thrown ⟨Nat.le_of_ble_eq_true rfl, Nat.le_of_ble_eq_true rfl⟩ ⟨rfl, rfl⟩ rfl hl.1 rfl (Nat.le_of_ble_eq_true rfl) dL_law_575 ⟨by show cells + 1 + 0 ≤ 601024; omega, by show slots + 6 + 0 ≤ 7293034; omega⟩) (fun r6 H locs h3 hH => ?_)
  refine lv_iload hx hb dL_law_578 (lv_at hl 1 rfl) ?_
  refine lv_icmp_eq (tgt := 585) hx hb dL_law_580 (by decide) (fun hc9 => ?_) (fun hc9 => absurd (h3.trans hT) hc9)
  refine lv_iload hx hb dL_law_585 (lv_at hl 1 rfl) ?_
  refine lv_if_ne (tgt := 602) hx hb dL_law_587 (by decide) (fun hc9 => ?_) (fun hc9 => ?_)
  · have hz := hc9
    refine lv_goto (tgt := 1212) hx hb dL_law_602 (by decide) ?_
    exact K I5 G3 _ _ _ hi2 hH (lv_sub hl [2, 3, 4, 5, 6] rfl)
  · have hR2 := hR hc9
    refine lv_aload_n hx hb dL_law_590 rfl (lv_at hl 3 rfl) ?_
    refine lv_iconst (v := 0) hx hb dL_law_591 (by decide) ?_
    refine w_lald hX hK hH dL_law_592 ?_
    refine lv_iload hx hb dL_law_593 (lv_at hl 0 rfl) ?_
    refine lv_i2l hx hb dL_law_595 rfl ?_
    refine W.lcmp hx hb dL_law_596 ?_
    refine lv_if_eq (tgt := 602) hx hb dL_law_597 (by decide) (fun hc8 => ?_) (fun hc8 => absurd ((lg_cmp_eq _ _).mpr hR2) hc8)
    refine lv_goto (tgt := 1212) hx hb dL_law_602 (by decide) ?_
    exact K I5 G3 _ _ _ hi2 hH (lv_sub hl [2, 3, 4, 5, 6] rfl)

set_option maxRecDepth 100000 in
set_option maxHeartbeats 4000000 in
theorem k_12 (C0 : wLx p m c s a0 meth D cs ad b L xs) (hst : l.stackTraces = false) (hL : L ≤ 2048) {i cells slots : Nat} (hi4 : i + 4 ≤ L) (hc : cells + 1 ≤ 601024) (hs : slots + 6 ≤ 7293034)
    (K : ∀ (I2 : wI) (G2 : wG) (H : Heap) (locs : List Loc) (ls : Array Slot), inv I2 → wH D cs b G2 I2 s H locs → lv_has ls 9 [(4, .int (nI i)), (3, .ref (b + 124)), (2, .ref (b + 111)), (1, .ref (b + 0)), (0, .ref a0)] → W p l e room_1 s m #[Value.ref a0] below meth c H locs (cells + 1) (slots + 6) Q (F0 m 1212 ls [])) :
    ∀ (I : wI) (G : wG) (H : Heap) (locs : List Loc) (ls : Array Slot), inv I → wH D cs b G I s H locs → lv_has ls 9 [(4, .int (nI i)), (3, .ref (b + 124)), (2, .ref (b + 111)), (1, .ref (b + 0)), (0, .ref a0)] → W p l e room_1 s m #[Value.ref a0] below meth c H locs cells slots Q (F0 m 605 ls []) := by
  intro I G H locs ls hi hH hl
  obtain ⟨hX, hr, hlk, hK, hE, hN, hS0, ha0, hbb⟩ := id C0
  have hx := hX.1
  have hb := hX.2.1
  have hown := hX.2.2.2.1
  have hts := hX.2.2.2.2
  have hbA : ¬ (fun q : Nat => b ≤ q) a0 := by show ¬ b ≤ a0; rw [hbb]; exact Nat.not_le.mpr ha0
  have hin1 : vp_in (nI i + (1 : Int32)) L := by rw [i_s]; exact i_in (by omega) (by omega)
  have hin2 : vp_in (nI i + (2 : Int32)) L := by rw [l_2, i_add]; exact i_in (by omega) (by omega)
  have hin3 : vp_in (nI i + (3 : Int32)) L := by rw [l_3, i_add]; exact i_in (by omega) (by omega)
  refine lv_aload_n hx hb dL_law_605 rfl (lv_at hl 3 rfl) ?_
  refine lv_aload_n hx hb dL_law_606 rfl (lv_at hl 1 rfl) ?_
  refine w_cIL hH (w_rSW (As := [.ref (b + 0), .ref (b + 124)]) (rest := []) hX hK hE hN hH (c_L_undo hst  I (fun h => ⟨hi.1, h⟩) (fun h => ⟨hi.1, Decidable.not_not.mp h⟩) (fun E u h => h.2)) q4_12 q4_13 q1_0 q4_14 hd_L_undo ⟨Nat.le_of_ble_eq_true rfl, Nat.le_of_ble_eq_true rfl⟩ ⟨rfl, rfl⟩ rfl hl.1 rfl (Nat.le_of_ble_eq_true rfl) dL_law_607 ⟨hc, hs⟩) (fun r1 I2 G3 H locs h1 hH => ?_)
  refine lv_istore (lv' := [(5, .int r1), (4, .int (nI i)), (3, .ref (b + 124)), (2, .ref (b + 111)), (1, .ref (b + 0)), (0, .ref a0)]) hx hb dL_law_610 hl (by decide) rfl (fun ls hl => ?_)
  refine lv_aload_n hx hb dL_law_612 rfl (lv_at hl 3 rfl) ?_
  refine w_cI hH (w_rV (As := []) (rest := []) hX hK hE hH (c_X6_undo  I2 (pm_undo hi h1)) ck6 sh111 q4_141 q4_142 q4_143 q1_7 q4_144 hd_X6_undo ⟨Nat.le_of_ble_eq_true rfl, Nat.le_of_ble_eq_true rfl⟩ ⟨rfl, rfl⟩ rfl hl.1 rfl (Nat.le_of_ble_eq_true rfl) dL_law_613 ⟨by show cells + 1 + 0 ≤ 601024; omega, by show slots + 6 + 0 ≤ 7293034; omega⟩) (fun r4 I5 H locs h2 hH => ?_)
  obtain ⟨hi2, hT, hR⟩ := st_undo  hi h1 h2
  refine lv_istore (lv' := [(6, .int r4), (5, .int r1), (4, .int (nI i)), (3, .ref (b + 124)), (2, .ref (b + 111)), (1, .ref (b + 0)), (0, .ref a0)]) hx hb dL_law_616 hl (by decide) rfl (fun ls hl => ?_)
  refine lv_aload_n hx hb dL_law_618 rfl (lv_at hl 4 rfl) ?_
  refine w_cIp hH (w_rV (As := []) (rest := []) hX hK hE hH (c_X6_thrown  I5 trivial) ck6 sh111 q4_137 q4_138 q4_139 q1_7 q4_140 hd_X6_thrown ⟨Nat.le_of_ble_eq_true rfl, Nat.le_of_ble_eq_true rfl⟩ ⟨rfl, rfl⟩ rfl hl.1 rfl (Nat.le_of_ble_eq_true rfl) dL_law_619 ⟨by show cells + 1 + 0 ≤ 601024; omega, by show slots + 6 + 0 ≤ 7293034; omega⟩) (fun r6 H locs h3 hH => ?_)
  refine lv_iload hx hb dL_law_622 (lv_at hl 1 rfl) ?_
  refine lv_icmp_eq (tgt := 629) hx hb dL_law_624 (by decide) (fun hc9 => ?_) (fun hc9 => absurd (h3.trans hT) hc9)
  refine lv_iload hx hb dL_law_629 (lv_at hl 1 rfl) ?_
  refine lv_if_ne (tgt := 646) hx hb dL_law_631 (by decide) (fun hc9 => ?_) (fun hc9 => ?_)
  · have hz := hc9
    refine lv_goto (tgt := 1212) hx hb dL_law_646 (by decide) ?_
    exact K I5 G3 _ _ _ hi2 hH (lv_sub hl [2, 3, 4, 5, 6] rfl)
  · have hR2 := hR hc9
    refine lv_aload_n hx hb dL_law_634 rfl (lv_at hl 3 rfl) ?_
    refine lv_iconst (v := 0) hx hb dL_law_635 (by decide) ?_
    refine w_lald hX hK hH dL_law_636 ?_
    refine lv_iload hx hb dL_law_637 (lv_at hl 0 rfl) ?_
    refine lv_i2l hx hb dL_law_639 rfl ?_
    refine W.lcmp hx hb dL_law_640 ?_
    refine lv_if_eq (tgt := 646) hx hb dL_law_641 (by decide) (fun hc8 => ?_) (fun hc8 => absurd ((lg_cmp_eq _ _).mpr hR2) hc8)
    refine lv_goto (tgt := 1212) hx hb dL_law_646 (by decide) ?_
    exact K I5 G3 _ _ _ hi2 hH (lv_sub hl [2, 3, 4, 5, 6] rfl)

set_option maxRecDepth 100000 in
set_option maxHeartbeats 4000000 in
theorem k_13 (C0 : wLx p m c s a0 meth D cs ad b L xs) (hst : l.stackTraces = false) (hL : L ≤ 2048) {i cells slots : Nat} (hi4 : i + 4 ≤ L) (hc : cells + 1 ≤ 601024) (hs : slots + 6 ≤ 7293034)
    (K : ∀ (I2 : wI) (G2 : wG) (H : Heap) (locs : List Loc) (ls : Array Slot), inv I2 → wH D cs b G2 I2 s H locs → lv_has ls 9 [(4, .int (nI i)), (3, .ref (b + 124)), (2, .ref (b + 111)), (1, .ref (b + 0)), (0, .ref a0)] → W p l e room_1 s m #[Value.ref a0] below meth c H locs (cells + 1) (slots + 6) Q (F0 m 1212 ls [])) :
    ∀ (I : wI) (G : wG) (H : Heap) (locs : List Loc) (ls : Array Slot), inv I → wH D cs b G I s H locs → lv_has ls 9 [(4, .int (nI i)), (3, .ref (b + 124)), (2, .ref (b + 111)), (1, .ref (b + 0)), (0, .ref a0)] → W p l e room_1 s m #[Value.ref a0] below meth c H locs cells slots Q (F0 m 649 ls []) := by
  intro I G H locs ls hi hH hl
  obtain ⟨hX, hr, hlk, hK, hE, hN, hS0, ha0, hbb⟩ := id C0
  have hx := hX.1
  have hb := hX.2.1
  have hown := hX.2.2.2.1
  have hts := hX.2.2.2.2
  have hbA : ¬ (fun q : Nat => b ≤ q) a0 := by show ¬ b ≤ a0; rw [hbb]; exact Nat.not_le.mpr ha0
  have hin1 : vp_in (nI i + (1 : Int32)) L := by rw [i_s]; exact i_in (by omega) (by omega)
  have hin2 : vp_in (nI i + (2 : Int32)) L := by rw [l_2, i_add]; exact i_in (by omega) (by omega)
  have hin3 : vp_in (nI i + (3 : Int32)) L := by rw [l_3, i_add]; exact i_in (by omega) (by omega)
  refine lv_aload_n hx hb dL_law_649 rfl (lv_at hl 3 rfl) ?_
  refine lv_aload_n hx hb dL_law_650 rfl (lv_at hl 4 rfl) ?_
  refine lv_iload hx hb dL_law_651 (lv_at hl 0 rfl) ?_
  refine lv_iconst (v := 1) hx hb dL_law_653 (by decide) ?_
  refine lv_iadd hx hb dL_law_654 ?_
  refine va_sld hx hb hS0 ha0 hbA hH.2 hin1 dL_law_655 ?_
  refine lv_aload_n hx hb dL_law_656 rfl (lv_at hl 4 rfl) ?_
  refine lv_iload hx hb dL_law_657 (lv_at hl 0 rfl) ?_
  refine lv_iconst (v := 2) hx hb dL_law_659 (by decide) ?_
  refine lv_iadd hx hb dL_law_660 ?_
  refine va_sld hx hb hS0 ha0 hbA hH.2 hin2 dL_law_661 ?_
  refine lv_aload_n hx hb dL_law_662 rfl (lv_at hl 1 rfl) ?_
  refine w_cIL hH (w_rSW (As := [.ref (b + 0), .int (xs ((nI i) + (1 : Int32)).toNatClampNeg), .int (xs ((nI i) + (2 : Int32)).toNatClampNeg), .ref (b + 124)]) (rest := []) hX hK hE hN hH (c_L_at hst (xs ((nI i) + (1 : Int32)).toNatClampNeg) (xs ((nI i) + (2 : Int32)).toNatClampNeg) I (fun h => ⟨hi.1, h⟩) (fun h => ⟨hi.1, h⟩) (fun E h => h.elim (fun q => Or.inl q.2) (fun q => Or.inr q.2))) q4_20 q4_21 q1_0 q4_22 hd_L_at ⟨Nat.le_of_ble_eq_true rfl, Nat.le_of_ble_eq_true rfl⟩ ⟨rfl, rfl⟩ rfl hl.1 rfl (Nat.le_of_ble_eq_true rfl) dL_law_663 ⟨hc, hs⟩) (fun r1 I2 G3 H locs h1 hH => ?_)
  refine lv_istore (lv' := [(5, .int r1), (4, .int (nI i)), (3, .ref (b + 124)), (2, .ref (b + 111)), (1, .ref (b + 0)), (0, .ref a0)]) hx hb dL_law_666 hl (by decide) rfl (fun ls hl => ?_)
  refine lv_aload_n hx hb dL_law_668 rfl (lv_at hl 3 rfl) ?_
  refine lv_aload_n hx hb dL_law_669 rfl (lv_at hl 5 rfl) ?_
  refine lv_iload hx hb dL_law_670 (lv_at hl 1 rfl) ?_
  refine lv_iconst (v := 1) hx hb dL_law_672 (by decide) ?_
  refine lv_iadd hx hb dL_law_673 ?_
  refine va_sld hx hb hS0 ha0 hbA hH.2 hin1 dL_law_674 ?_
  refine lv_aload_n hx hb dL_law_675 rfl (lv_at hl 5 rfl) ?_
  refine lv_iload hx hb dL_law_676 (lv_at hl 1 rfl) ?_
  refine lv_iconst (v := 2) hx hb dL_law_678 (by decide) ?_
  refine lv_iadd hx hb dL_law_679 ?_
  refine va_sld hx hb hS0 ha0 hbA hH.2 hin2 dL_law_680 ?_
  refine w_cI hH (w_rV (As := [.int (xs ((nI i) + (1 : Int32)).toNatClampNeg), .int (xs ((nI i) + (2 : Int32)).toNatClampNeg)]) (rest := []) hX hK hE hH (c_X6_at (xs ((nI i) + (1 : Int32)).toNatClampNeg) (xs ((nI i) + (2 : Int32)).toNatClampNeg) I2 (pm_at (xs ((nI i) + (1 : Int32)).toNatClampNeg) (xs ((nI i) + (2 : Int32)).toNatClampNeg) hi h1)) ck6 sh111 q5_45 q5_46 q5_47 q1_7 q5_48 hd_X6_at ⟨Nat.le_of_ble_eq_true rfl, Nat.le_of_ble_eq_true rfl⟩ ⟨rfl, rfl⟩ rfl hl.1 rfl (Nat.le_of_ble_eq_true rfl) dL_law_681 ⟨by show cells + 1 + 0 ≤ 601024; omega, by show slots + 6 + 0 ≤ 7293034; omega⟩) (fun r4 I5 H locs h2 hH => ?_)
  obtain ⟨hi2, hT, hR⟩ := st_at (xs ((nI i) + (1 : Int32)).toNatClampNeg) (xs ((nI i) + (2 : Int32)).toNatClampNeg) hi h1 h2
  refine lv_istore (lv' := [(6, .int r4), (5, .int r1), (4, .int (nI i)), (3, .ref (b + 124)), (2, .ref (b + 111)), (1, .ref (b + 0)), (0, .ref a0)]) hx hb dL_law_684 hl (by decide) rfl (fun ls hl => ?_)
  refine lv_aload_n hx hb dL_law_686 rfl (lv_at hl 4 rfl) ?_
  refine w_cIp hH (w_rV (As := []) (rest := []) hX hK hE hH (c_X6_thrown  I5 trivial) ck6 sh111 q4_137 q4_138 q4_139 q1_7 q4_140 hd_X6_thrown ⟨Nat.le_of_ble_eq_true rfl, Nat.le_of_ble_eq_true rfl⟩ ⟨rfl, rfl⟩ rfl hl.1 rfl (Nat.le_of_ble_eq_true rfl) dL_law_687 ⟨by show cells + 1 + 0 ≤ 601024; omega, by show slots + 6 + 0 ≤ 7293034; omega⟩) (fun r6 H locs h3 hH => ?_)
  refine lv_iload hx hb dL_law_690 (lv_at hl 1 rfl) ?_
  refine lv_icmp_eq (tgt := 697) hx hb dL_law_692 (by decide) (fun hc9 => ?_) (fun hc9 => absurd (h3.trans hT) hc9)
  refine lv_iload hx hb dL_law_697 (lv_at hl 1 rfl) ?_
  refine lv_if_ne (tgt := 714) hx hb dL_law_699 (by decide) (fun hc9 => ?_) (fun hc9 => ?_)
  · have hz := hc9
    refine lv_goto (tgt := 1212) hx hb dL_law_714 (by decide) ?_
    exact K I5 G3 _ _ _ hi2 hH (lv_sub hl [2, 3, 4, 5, 6] rfl)
  · have hR2 := hR hc9
    refine lv_aload_n hx hb dL_law_702 rfl (lv_at hl 3 rfl) ?_
    refine lv_iconst (v := 0) hx hb dL_law_703 (by decide) ?_
    refine w_lald hX hK hH dL_law_704 ?_
    refine lv_iload hx hb dL_law_705 (lv_at hl 0 rfl) ?_
    refine lv_i2l hx hb dL_law_707 rfl ?_
    refine W.lcmp hx hb dL_law_708 ?_
    refine lv_if_eq (tgt := 714) hx hb dL_law_709 (by decide) (fun hc8 => ?_) (fun hc8 => absurd ((lg_cmp_eq _ _).mpr hR2) hc8)
    refine lv_goto (tgt := 1212) hx hb dL_law_714 (by decide) ?_
    exact K I5 G3 _ _ _ hi2 hH (lv_sub hl [2, 3, 4, 5, 6] rfl)

set_option maxRecDepth 100000 in
set_option maxHeartbeats 4000000 in
theorem k_14 (C0 : wLx p m c s a0 meth D cs ad b L xs) (hst : l.stackTraces = false) (hL : L ≤ 2048) {i cells slots : Nat} (hi4 : i + 4 ≤ L) (hc : cells + 1 ≤ 601024) (hs : slots + 6 ≤ 7293034)
    (K : ∀ (I2 : wI) (G2 : wG) (H : Heap) (locs : List Loc) (ls : Array Slot), inv I2 → wH D cs b G2 I2 s H locs → lv_has ls 9 [(4, .int (nI i)), (3, .ref (b + 124)), (2, .ref (b + 111)), (1, .ref (b + 0)), (0, .ref a0)] → W p l e room_1 s m #[Value.ref a0] below meth c H locs (cells + 1) (slots + 6) Q (F0 m 1212 ls [])) :
    ∀ (I : wI) (G : wG) (H : Heap) (locs : List Loc) (ls : Array Slot), inv I → wH D cs b G I s H locs → lv_has ls 9 [(4, .int (nI i)), (3, .ref (b + 124)), (2, .ref (b + 111)), (1, .ref (b + 0)), (0, .ref a0)] → W p l e room_1 s m #[Value.ref a0] below meth c H locs cells slots Q (F0 m 717 ls []) := by
  intro I G H locs ls hi hH hl
  obtain ⟨hX, hr, hlk, hK, hE, hN, hS0, ha0, hbb⟩ := id C0
  have hx := hX.1
  have hb := hX.2.1
  have hown := hX.2.2.2.1
  have hts := hX.2.2.2.2
  have hbA : ¬ (fun q : Nat => b ≤ q) a0 := by show ¬ b ≤ a0; rw [hbb]; exact Nat.not_le.mpr ha0
  have hin1 : vp_in (nI i + (1 : Int32)) L := by rw [i_s]; exact i_in (by omega) (by omega)
  have hin2 : vp_in (nI i + (2 : Int32)) L := by rw [l_2, i_add]; exact i_in (by omega) (by omega)
  have hin3 : vp_in (nI i + (3 : Int32)) L := by rw [l_3, i_add]; exact i_in (by omega) (by omega)
  refine lv_aload_n hx hb dL_law_717 rfl (lv_at hl 3 rfl) ?_
  refine lv_aload_n hx hb dL_law_718 rfl (lv_at hl 4 rfl) ?_
  refine lv_iload hx hb dL_law_719 (lv_at hl 0 rfl) ?_
  refine lv_iconst (v := 1) hx hb dL_law_721 (by decide) ?_
  refine lv_iadd hx hb dL_law_722 ?_
  refine va_sld hx hb hS0 ha0 hbA hH.2 hin1 dL_law_723 ?_
  refine lv_aload_n hx hb dL_law_724 rfl (lv_at hl 4 rfl) ?_
  refine lv_iload hx hb dL_law_725 (lv_at hl 0 rfl) ?_
  refine lv_iconst (v := 2) hx hb dL_law_727 (by decide) ?_
  refine lv_iadd hx hb dL_law_728 ?_
  refine va_sld hx hb hS0 ha0 hbA hH.2 hin2 dL_law_729 ?_
  refine lv_aload_n hx hb dL_law_730 rfl (lv_at hl 1 rfl) ?_
  refine w_cIL hH (w_rSW (As := [.ref (b + 0), .int (xs ((nI i) + (1 : Int32)).toNatClampNeg), .int (xs ((nI i) + (2 : Int32)).toNatClampNeg), .ref (b + 124)]) (rest := []) hX hK hE hN hH (c_L_key hst (xs ((nI i) + (1 : Int32)).toNatClampNeg) (xs ((nI i) + (2 : Int32)).toNatClampNeg) I (fun h => ⟨hi.1, h⟩) (fun h => ⟨hi.1, h⟩) (fun E u h => h.2.elim (fun q => Or.inl q.2) (fun q => Or.inr q.2))) q4_24 q4_25 q1_0 q4_26 hd_L_key ⟨Nat.le_of_ble_eq_true rfl, Nat.le_of_ble_eq_true rfl⟩ ⟨rfl, rfl⟩ rfl hl.1 rfl (Nat.le_of_ble_eq_true rfl) dL_law_731 ⟨hc, hs⟩) (fun r1 I2 G3 H locs h1 hH => ?_)
  refine lv_istore (lv' := [(5, .int r1), (4, .int (nI i)), (3, .ref (b + 124)), (2, .ref (b + 111)), (1, .ref (b + 0)), (0, .ref a0)]) hx hb dL_law_734 hl (by decide) rfl (fun ls hl => ?_)
  refine lv_aload_n hx hb dL_law_736 rfl (lv_at hl 3 rfl) ?_
  refine lv_aload_n hx hb dL_law_737 rfl (lv_at hl 5 rfl) ?_
  refine lv_iload hx hb dL_law_738 (lv_at hl 1 rfl) ?_
  refine lv_iconst (v := 1) hx hb dL_law_740 (by decide) ?_
  refine lv_iadd hx hb dL_law_741 ?_
  refine va_sld hx hb hS0 ha0 hbA hH.2 hin1 dL_law_742 ?_
  refine lv_aload_n hx hb dL_law_743 rfl (lv_at hl 5 rfl) ?_
  refine lv_iload hx hb dL_law_744 (lv_at hl 1 rfl) ?_
  refine lv_iconst (v := 2) hx hb dL_law_746 (by decide) ?_
  refine lv_iadd hx hb dL_law_747 ?_
  refine va_sld hx hb hS0 ha0 hbA hH.2 hin2 dL_law_748 ?_
  refine w_cI hH (w_rV (As := [.int (xs ((nI i) + (1 : Int32)).toNatClampNeg), .int (xs ((nI i) + (2 : Int32)).toNatClampNeg)]) (rest := []) hX hK hE hH (c_X6_key (xs ((nI i) + (1 : Int32)).toNatClampNeg) (xs ((nI i) + (2 : Int32)).toNatClampNeg) I2 (pm_key (xs ((nI i) + (1 : Int32)).toNatClampNeg) (xs ((nI i) + (2 : Int32)).toNatClampNeg) hi h1)) ck6 sh111 q5_57 q5_58 q5_59 q1_7 q5_60 hd_X6_key ⟨Nat.le_of_ble_eq_true rfl, Nat.le_of_ble_eq_true rfl⟩ ⟨rfl, rfl⟩ rfl hl.1 rfl (Nat.le_of_ble_eq_true rfl) dL_law_749 ⟨by show cells + 1 + 0 ≤ 601024; omega, by show slots + 6 + 0 ≤ 7293034; omega⟩) (fun r4 I5 H locs h2 hH => ?_)
  obtain ⟨hi2, hT, hR⟩ := st_key (xs ((nI i) + (1 : Int32)).toNatClampNeg) (xs ((nI i) + (2 : Int32)).toNatClampNeg) hi h1 h2
  refine lv_istore (lv' := [(6, .int r4), (5, .int r1), (4, .int (nI i)), (3, .ref (b + 124)), (2, .ref (b + 111)), (1, .ref (b + 0)), (0, .ref a0)]) hx hb dL_law_752 hl (by decide) rfl (fun ls hl => ?_)
  refine lv_aload_n hx hb dL_law_754 rfl (lv_at hl 4 rfl) ?_
  refine w_cIp hH (w_rV (As := []) (rest := []) hX hK hE hH (c_X6_thrown  I5 trivial) ck6 sh111 q4_137 q4_138 q4_139 q1_7 q4_140 hd_X6_thrown ⟨Nat.le_of_ble_eq_true rfl, Nat.le_of_ble_eq_true rfl⟩ ⟨rfl, rfl⟩ rfl hl.1 rfl (Nat.le_of_ble_eq_true rfl) dL_law_755 ⟨by show cells + 1 + 0 ≤ 601024; omega, by show slots + 6 + 0 ≤ 7293034; omega⟩) (fun r6 H locs h3 hH => ?_)
  refine lv_iload hx hb dL_law_758 (lv_at hl 1 rfl) ?_
  refine lv_icmp_eq (tgt := 765) hx hb dL_law_760 (by decide) (fun hc9 => ?_) (fun hc9 => absurd (h3.trans hT) hc9)
  refine lv_iload hx hb dL_law_765 (lv_at hl 1 rfl) ?_
  refine lv_if_ne (tgt := 782) hx hb dL_law_767 (by decide) (fun hc9 => ?_) (fun hc9 => ?_)
  · have hz := hc9
    refine lv_goto (tgt := 1212) hx hb dL_law_782 (by decide) ?_
    exact K I5 G3 _ _ _ hi2 hH (lv_sub hl [2, 3, 4, 5, 6] rfl)
  · have hR2 := hR hc9
    refine lv_aload_n hx hb dL_law_770 rfl (lv_at hl 3 rfl) ?_
    refine lv_iconst (v := 0) hx hb dL_law_771 (by decide) ?_
    refine w_lald hX hK hH dL_law_772 ?_
    refine lv_iload hx hb dL_law_773 (lv_at hl 0 rfl) ?_
    refine lv_i2l hx hb dL_law_775 rfl ?_
    refine W.lcmp hx hb dL_law_776 ?_
    refine lv_if_eq (tgt := 782) hx hb dL_law_777 (by decide) (fun hc8 => ?_) (fun hc8 => absurd ((lg_cmp_eq _ _).mpr hR2) hc8)
    refine lv_goto (tgt := 1212) hx hb dL_law_782 (by decide) ?_
    exact K I5 G3 _ _ _ hi2 hH (lv_sub hl [2, 3, 4, 5, 6] rfl)

set_option maxRecDepth 100000 in
set_option maxHeartbeats 4000000 in
theorem k_15 (C0 : wLx p m c s a0 meth D cs ad b L xs) (hst : l.stackTraces = false) (hL : L ≤ 2048) {i cells slots : Nat} (hi4 : i + 4 ≤ L) (hc : cells + 1 ≤ 601024) (hs : slots + 6 ≤ 7293034)
    (K : ∀ (I2 : wI) (G2 : wG) (H : Heap) (locs : List Loc) (ls : Array Slot), inv I2 → wH D cs b G2 I2 s H locs → lv_has ls 9 [(4, .int (nI i)), (3, .ref (b + 124)), (2, .ref (b + 111)), (1, .ref (b + 0)), (0, .ref a0)] → W p l e room_1 s m #[Value.ref a0] below meth c H locs (cells + 1) (slots + 6) Q (F0 m 1212 ls [])) :
    ∀ (I : wI) (G : wG) (H : Heap) (locs : List Loc) (ls : Array Slot), inv I → wH D cs b G I s H locs → lv_has ls 9 [(4, .int (nI i)), (3, .ref (b + 124)), (2, .ref (b + 111)), (1, .ref (b + 0)), (0, .ref a0)] → W p l e room_1 s m #[Value.ref a0] below meth c H locs cells slots Q (F0 m 785 ls []) := by
  intro I G H locs ls hi hH hl
  obtain ⟨hX, hr, hlk, hK, hE, hN, hS0, ha0, hbb⟩ := id C0
  have hx := hX.1
  have hb := hX.2.1
  have hown := hX.2.2.2.1
  have hts := hX.2.2.2.2
  have hbA : ¬ (fun q : Nat => b ≤ q) a0 := by show ¬ b ≤ a0; rw [hbb]; exact Nat.not_le.mpr ha0
  have hin1 : vp_in (nI i + (1 : Int32)) L := by rw [i_s]; exact i_in (by omega) (by omega)
  have hin2 : vp_in (nI i + (2 : Int32)) L := by rw [l_2, i_add]; exact i_in (by omega) (by omega)
  have hin3 : vp_in (nI i + (3 : Int32)) L := by rw [l_3, i_add]; exact i_in (by omega) (by omega)
  refine lv_aload_n hx hb dL_law_785 rfl (lv_at hl 3 rfl) ?_
  refine lv_aload_n hx hb dL_law_786 rfl (lv_at hl 4 rfl) ?_
  refine lv_iload hx hb dL_law_787 (lv_at hl 0 rfl) ?_
  refine lv_iconst (v := 1) hx hb dL_law_789 (by decide) ?_
  refine lv_iadd hx hb dL_law_790 ?_
  refine va_sld hx hb hS0 ha0 hbA hH.2 hin1 dL_law_791 ?_
  refine lv_aload_n hx hb dL_law_792 rfl (lv_at hl 4 rfl) ?_
  refine lv_iload hx hb dL_law_793 (lv_at hl 0 rfl) ?_
  refine lv_iconst (v := 2) hx hb dL_law_795 (by decide) ?_
  refine lv_iadd hx hb dL_law_796 ?_
  refine va_sld hx hb hS0 ha0 hbA hH.2 hin2 dL_law_797 ?_
  refine lv_aload_n hx hb dL_law_798 rfl (lv_at hl 4 rfl) ?_
  refine lv_iload hx hb dL_law_799 (lv_at hl 0 rfl) ?_
  refine lv_iconst (v := 3) hx hb dL_law_801 (by decide) ?_
  refine lv_iadd hx hb dL_law_802 ?_
  refine va_sld hx hb hS0 ha0 hbA hH.2 hin3 dL_law_803 ?_
  refine lv_aload_n hx hb dL_law_804 rfl (lv_at hl 1 rfl) ?_
  refine w_cIL hH (w_rSW (As := [.ref (b + 0), .int (xs ((nI i) + (1 : Int32)).toNatClampNeg), .int (xs ((nI i) + (2 : Int32)).toNatClampNeg), .int (xs ((nI i) + (3 : Int32)).toNatClampNeg), .ref (b + 124)]) (rest := []) hX hK hE hN hH (c_L_pair hst (xs ((nI i) + (1 : Int32)).toNatClampNeg) (xs ((nI i) + (2 : Int32)).toNatClampNeg) (xs ((nI i) + (3 : Int32)).toNatClampNeg) I (fun h => ⟨hi.1, h⟩) (fun h => ⟨hi.1, h⟩) (fun E u h => h.2.elim (fun q => Or.inl q.2) (fun q => Or.inr q.2))) q4_28 q4_29 q1_0 q4_30 hd_L_pair ⟨Nat.le_of_ble_eq_true rfl, Nat.le_of_ble_eq_true rfl⟩ ⟨rfl, rfl⟩ rfl hl.1 rfl (Nat.le_of_ble_eq_true rfl) dL_law_805 ⟨hc, hs⟩) (fun r1 I2 G3 H locs h1 hH => ?_)
  refine lv_istore (lv' := [(5, .int r1), (4, .int (nI i)), (3, .ref (b + 124)), (2, .ref (b + 111)), (1, .ref (b + 0)), (0, .ref a0)]) hx hb dL_law_808 hl (by decide) rfl (fun ls hl => ?_)
  refine lv_aload_n hx hb dL_law_810 rfl (lv_at hl 3 rfl) ?_
  refine lv_aload_n hx hb dL_law_811 rfl (lv_at hl 5 rfl) ?_
  refine lv_iload hx hb dL_law_812 (lv_at hl 1 rfl) ?_
  refine lv_iconst (v := 1) hx hb dL_law_814 (by decide) ?_
  refine lv_iadd hx hb dL_law_815 ?_
  refine va_sld hx hb hS0 ha0 hbA hH.2 hin1 dL_law_816 ?_
  refine lv_aload_n hx hb dL_law_817 rfl (lv_at hl 5 rfl) ?_
  refine lv_iload hx hb dL_law_818 (lv_at hl 1 rfl) ?_
  refine lv_iconst (v := 2) hx hb dL_law_820 (by decide) ?_
  refine lv_iadd hx hb dL_law_821 ?_
  refine va_sld hx hb hS0 ha0 hbA hH.2 hin2 dL_law_822 ?_
  refine lv_aload_n hx hb dL_law_823 rfl (lv_at hl 5 rfl) ?_
  refine lv_iload hx hb dL_law_824 (lv_at hl 1 rfl) ?_
  refine lv_iconst (v := 3) hx hb dL_law_826 (by decide) ?_
  refine lv_iadd hx hb dL_law_827 ?_
  refine va_sld hx hb hS0 ha0 hbA hH.2 hin3 dL_law_828 ?_
  refine w_cI hH (w_rV (As := [.int (xs ((nI i) + (1 : Int32)).toNatClampNeg), .int (xs ((nI i) + (2 : Int32)).toNatClampNeg), .int (xs ((nI i) + (3 : Int32)).toNatClampNeg)]) (rest := []) hX hK hE hH (c_X6_pair (xs ((nI i) + (1 : Int32)).toNatClampNeg) (xs ((nI i) + (2 : Int32)).toNatClampNeg) (xs ((nI i) + (3 : Int32)).toNatClampNeg) I2 (pm_pair (xs ((nI i) + (1 : Int32)).toNatClampNeg) (xs ((nI i) + (2 : Int32)).toNatClampNeg) (xs ((nI i) + (3 : Int32)).toNatClampNeg) hi h1)) ck6 sh111 q5_84 q5_85 q5_86 q1_7 q5_87 hd_X6_pair ⟨Nat.le_of_ble_eq_true rfl, Nat.le_of_ble_eq_true rfl⟩ ⟨rfl, rfl⟩ rfl hl.1 rfl (Nat.le_of_ble_eq_true rfl) dL_law_829 ⟨by show cells + 1 + 0 ≤ 601024; omega, by show slots + 6 + 0 ≤ 7293034; omega⟩) (fun r4 I5 H locs h2 hH => ?_)
  obtain ⟨hi2, hT, hR⟩ := st_pair (xs ((nI i) + (1 : Int32)).toNatClampNeg) (xs ((nI i) + (2 : Int32)).toNatClampNeg) (xs ((nI i) + (3 : Int32)).toNatClampNeg) hi h1 h2
  refine lv_istore (lv' := [(6, .int r4), (5, .int r1), (4, .int (nI i)), (3, .ref (b + 124)), (2, .ref (b + 111)), (1, .ref (b + 0)), (0, .ref a0)]) hx hb dL_law_832 hl (by decide) rfl (fun ls hl => ?_)
  refine lv_aload_n hx hb dL_law_834 rfl (lv_at hl 4 rfl) ?_
  refine w_cIp hH (w_rV (As := []) (rest := []) hX hK hE hH (c_X6_thrown  I5 trivial) ck6 sh111 q4_137 q4_138 q4_139 q1_7 q4_140 hd_X6_thrown ⟨Nat.le_of_ble_eq_true rfl, Nat.le_of_ble_eq_true rfl⟩ ⟨rfl, rfl⟩ rfl hl.1 rfl (Nat.le_of_ble_eq_true rfl) dL_law_835 ⟨by show cells + 1 + 0 ≤ 601024; omega, by show slots + 6 + 0 ≤ 7293034; omega⟩) (fun r6 H locs h3 hH => ?_)
  refine lv_iload hx hb dL_law_838 (lv_at hl 1 rfl) ?_
  refine lv_icmp_eq (tgt := 845) hx hb dL_law_840 (by decide) (fun hc9 => ?_) (fun hc9 => absurd (h3.trans hT) hc9)
  refine lv_iload hx hb dL_law_845 (lv_at hl 1 rfl) ?_
  refine lv_if_ne (tgt := 862) hx hb dL_law_847 (by decide) (fun hc9 => ?_) (fun hc9 => ?_)
  · have hz := hc9
    refine lv_goto (tgt := 1212) hx hb dL_law_862 (by decide) ?_
    exact K I5 G3 _ _ _ hi2 hH (lv_sub hl [2, 3, 4, 5, 6] rfl)
  · have hR2 := hR hc9
    refine lv_aload_n hx hb dL_law_850 rfl (lv_at hl 3 rfl) ?_
    refine lv_iconst (v := 0) hx hb dL_law_851 (by decide) ?_
    refine w_lald hX hK hH dL_law_852 ?_
    refine lv_iload hx hb dL_law_853 (lv_at hl 0 rfl) ?_
    refine lv_i2l hx hb dL_law_855 rfl ?_
    refine W.lcmp hx hb dL_law_856 ?_
    refine lv_if_eq (tgt := 862) hx hb dL_law_857 (by decide) (fun hc8 => ?_) (fun hc8 => absurd ((lg_cmp_eq _ _).mpr hR2) hc8)
    refine lv_goto (tgt := 1212) hx hb dL_law_862 (by decide) ?_
    exact K I5 G3 _ _ _ hi2 hH (lv_sub hl [2, 3, 4, 5, 6] rfl)

set_option maxRecDepth 100000 in
set_option maxHeartbeats 4000000 in
theorem k_16 (C0 : wLx p m c s a0 meth D cs ad b L xs) (hst : l.stackTraces = false) (hL : L ≤ 2048) {i cells slots : Nat} (hi4 : i + 4 ≤ L) (hc : cells + 1 ≤ 601024) (hs : slots + 6 ≤ 7293034)
    (K : ∀ (I2 : wI) (G2 : wG) (H : Heap) (locs : List Loc) (ls : Array Slot), inv I2 → wH D cs b G2 I2 s H locs → lv_has ls 9 [(4, .int (nI i)), (3, .ref (b + 124)), (2, .ref (b + 111)), (1, .ref (b + 0)), (0, .ref a0)] → W p l e room_1 s m #[Value.ref a0] below meth c H locs (cells + 1) (slots + 6) Q (F0 m 1212 ls [])) :
    ∀ (I : wI) (G : wG) (H : Heap) (locs : List Loc) (ls : Array Slot), inv I → wH D cs b G I s H locs → lv_has ls 9 [(4, .int (nI i)), (3, .ref (b + 124)), (2, .ref (b + 111)), (1, .ref (b + 0)), (0, .ref a0)] → W p l e room_1 s m #[Value.ref a0] below meth c H locs cells slots Q (F0 m 865 ls []) := by
  intro I G H locs ls hi hH hl
  obtain ⟨hX, hr, hlk, hK, hE, hN, hS0, ha0, hbb⟩ := id C0
  have hx := hX.1
  have hb := hX.2.1
  have hown := hX.2.2.2.1
  have hts := hX.2.2.2.2
  have hbA : ¬ (fun q : Nat => b ≤ q) a0 := by show ¬ b ≤ a0; rw [hbb]; exact Nat.not_le.mpr ha0
  have hin1 : vp_in (nI i + (1 : Int32)) L := by rw [i_s]; exact i_in (by omega) (by omega)
  have hin2 : vp_in (nI i + (2 : Int32)) L := by rw [l_2, i_add]; exact i_in (by omega) (by omega)
  have hin3 : vp_in (nI i + (3 : Int32)) L := by rw [l_3, i_add]; exact i_in (by omega) (by omega)
  refine lv_aload_n hx hb dL_law_865 rfl (lv_at hl 3 rfl) ?_
  refine lv_aload_n hx hb dL_law_866 rfl (lv_at hl 4 rfl) ?_
  refine lv_iload hx hb dL_law_867 (lv_at hl 0 rfl) ?_
  refine lv_iconst (v := 1) hx hb dL_law_869 (by decide) ?_
  refine lv_iadd hx hb dL_law_870 ?_
  refine va_sld hx hb hS0 ha0 hbA hH.2 hin1 dL_law_871 ?_
  refine lv_aload_n hx hb dL_law_872 rfl (lv_at hl 1 rfl) ?_
  refine w_cIL hH (w_rSW (As := [.ref (b + 0), .int (xs ((nI i) + (1 : Int32)).toNatClampNeg), .ref (b + 124)]) (rest := []) hX hK hE hN hH (c_L_ofWord hst (xs ((nI i) + (1 : Int32)).toNatClampNeg) I (fun h => ⟨hi.1, h⟩) (fun h => ⟨hi.1, h⟩) (fun E u h => h.2)) q4_32 q4_33 q1_0 q4_34 hd_L_ofWord ⟨Nat.le_of_ble_eq_true rfl, Nat.le_of_ble_eq_true rfl⟩ ⟨rfl, rfl⟩ rfl hl.1 rfl (Nat.le_of_ble_eq_true rfl) dL_law_873 ⟨hc, hs⟩) (fun r1 I2 G3 H locs h1 hH => ?_)
  refine lv_istore (lv' := [(5, .int r1), (4, .int (nI i)), (3, .ref (b + 124)), (2, .ref (b + 111)), (1, .ref (b + 0)), (0, .ref a0)]) hx hb dL_law_876 hl (by decide) rfl (fun ls hl => ?_)
  refine lv_aload_n hx hb dL_law_878 rfl (lv_at hl 3 rfl) ?_
  refine lv_aload_n hx hb dL_law_879 rfl (lv_at hl 5 rfl) ?_
  refine lv_iload hx hb dL_law_880 (lv_at hl 1 rfl) ?_
  refine lv_iconst (v := 1) hx hb dL_law_882 (by decide) ?_
  refine lv_iadd hx hb dL_law_883 ?_
  refine va_sld hx hb hS0 ha0 hbA hH.2 hin1 dL_law_884 ?_
  refine w_cI hH (w_rV (As := [.int (xs ((nI i) + (1 : Int32)).toNatClampNeg)]) (rest := []) hX hK hE hH (c_X6_ofWord (xs ((nI i) + (1 : Int32)).toNatClampNeg) I2 (pm_ofWord (xs ((nI i) + (1 : Int32)).toNatClampNeg) hi h1)) ck6 sh111 q5_96 q5_97 q5_98 q1_7 q5_99 hd_X6_ofWord ⟨Nat.le_of_ble_eq_true rfl, Nat.le_of_ble_eq_true rfl⟩ ⟨rfl, rfl⟩ rfl hl.1 rfl (Nat.le_of_ble_eq_true rfl) dL_law_885 ⟨by show cells + 1 + 0 ≤ 601024; omega, by show slots + 6 + 0 ≤ 7293034; omega⟩) (fun r4 I5 H locs h2 hH => ?_)
  obtain ⟨hi2, hT, hR⟩ := st_ofWord (xs ((nI i) + (1 : Int32)).toNatClampNeg) hi h1 h2
  refine lv_istore (lv' := [(6, .int r4), (5, .int r1), (4, .int (nI i)), (3, .ref (b + 124)), (2, .ref (b + 111)), (1, .ref (b + 0)), (0, .ref a0)]) hx hb dL_law_888 hl (by decide) rfl (fun ls hl => ?_)
  refine lv_aload_n hx hb dL_law_890 rfl (lv_at hl 4 rfl) ?_
  refine w_cIp hH (w_rV (As := []) (rest := []) hX hK hE hH (c_X6_thrown  I5 trivial) ck6 sh111 q4_137 q4_138 q4_139 q1_7 q4_140 hd_X6_thrown ⟨Nat.le_of_ble_eq_true rfl, Nat.le_of_ble_eq_true rfl⟩ ⟨rfl, rfl⟩ rfl hl.1 rfl (Nat.le_of_ble_eq_true rfl) dL_law_891 ⟨by show cells + 1 + 0 ≤ 601024; omega, by show slots + 6 + 0 ≤ 7293034; omega⟩) (fun r6 H locs h3 hH => ?_)
  refine lv_iload hx hb dL_law_894 (lv_at hl 1 rfl) ?_
  refine lv_icmp_eq (tgt := 901) hx hb dL_law_896 (by decide) (fun hc9 => ?_) (fun hc9 => absurd (h3.trans hT) hc9)
  refine lv_iload hx hb dL_law_901 (lv_at hl 1 rfl) ?_
  refine lv_if_ne (tgt := 918) hx hb dL_law_903 (by decide) (fun hc9 => ?_) (fun hc9 => ?_)
  · have hz := hc9
    refine lv_goto (tgt := 1212) hx hb dL_law_918 (by decide) ?_
    exact K I5 G3 _ _ _ hi2 hH (lv_sub hl [2, 3, 4, 5, 6] rfl)
  · have hR2 := hR hc9
    refine lv_aload_n hx hb dL_law_906 rfl (lv_at hl 3 rfl) ?_
    refine lv_iconst (v := 0) hx hb dL_law_907 (by decide) ?_
    refine w_lald hX hK hH dL_law_908 ?_
    refine lv_iload hx hb dL_law_909 (lv_at hl 0 rfl) ?_
    refine lv_i2l hx hb dL_law_911 rfl ?_
    refine W.lcmp hx hb dL_law_912 ?_
    refine lv_if_eq (tgt := 918) hx hb dL_law_913 (by decide) (fun hc8 => ?_) (fun hc8 => absurd ((lg_cmp_eq _ _).mpr hR2) hc8)
    refine lv_goto (tgt := 1212) hx hb dL_law_918 (by decide) ?_
    exact K I5 G3 _ _ _ hi2 hH (lv_sub hl [2, 3, 4, 5, 6] rfl)

set_option maxRecDepth 100000 in
set_option maxHeartbeats 4000000 in
theorem k_17 (C0 : wLx p m c s a0 meth D cs ad b L xs) (hst : l.stackTraces = false) (hL : L ≤ 2048) {i cells slots : Nat} (hi4 : i + 4 ≤ L) (hc : cells + 1 ≤ 601024) (hs : slots + 6 ≤ 7293034)
    (K : ∀ (I2 : wI) (G2 : wG) (H : Heap) (locs : List Loc) (ls : Array Slot), inv I2 → wH D cs b G2 I2 s H locs → lv_has ls 9 [(4, .int (nI i)), (3, .ref (b + 124)), (2, .ref (b + 111)), (1, .ref (b + 0)), (0, .ref a0)] → W p l e room_1 s m #[Value.ref a0] below meth c H locs (cells + 1) (slots + 6) Q (F0 m 1212 ls [])) :
    ∀ (I : wI) (G : wG) (H : Heap) (locs : List Loc) (ls : Array Slot), inv I → wH D cs b G I s H locs → lv_has ls 9 [(4, .int (nI i)), (3, .ref (b + 124)), (2, .ref (b + 111)), (1, .ref (b + 0)), (0, .ref a0)] → W p l e room_1 s m #[Value.ref a0] below meth c H locs cells slots Q (F0 m 921 ls []) := by
  intro I G H locs ls hi hH hl
  obtain ⟨hX, hr, hlk, hK, hE, hN, hS0, ha0, hbb⟩ := id C0
  have hx := hX.1
  have hb := hX.2.1
  have hown := hX.2.2.2.1
  have hts := hX.2.2.2.2
  have hbA : ¬ (fun q : Nat => b ≤ q) a0 := by show ¬ b ≤ a0; rw [hbb]; exact Nat.not_le.mpr ha0
  have hin1 : vp_in (nI i + (1 : Int32)) L := by rw [i_s]; exact i_in (by omega) (by omega)
  have hin2 : vp_in (nI i + (2 : Int32)) L := by rw [l_2, i_add]; exact i_in (by omega) (by omega)
  have hin3 : vp_in (nI i + (3 : Int32)) L := by rw [l_3, i_add]; exact i_in (by omega) (by omega)
  refine lv_aload_n hx hb dL_law_921 rfl (lv_at hl 3 rfl) ?_
  refine lv_aload_n hx hb dL_law_922 rfl (lv_at hl 4 rfl) ?_
  refine lv_iload hx hb dL_law_923 (lv_at hl 0 rfl) ?_
  refine lv_iconst (v := 1) hx hb dL_law_925 (by decide) ?_
  refine lv_iadd hx hb dL_law_926 ?_
  refine va_sld hx hb hS0 ha0 hbA hH.2 hin1 dL_law_927 ?_
  refine lv_aload_n hx hb dL_law_928 rfl (lv_at hl 1 rfl) ?_
  refine w_cIL hH (w_rSW (As := [.ref (b + 0), .int (xs ((nI i) + (1 : Int32)).toNatClampNeg), .ref (b + 124)]) (rest := []) hX hK hE hN hH (c_L_count hst (xs ((nI i) + (1 : Int32)).toNatClampNeg) I (fun h => ⟨hi.1, h⟩) (fun h => ⟨hi.1, h⟩) (fun E h => h)) q4_55 q4_56 q1_0 q4_57 hd_L_count ⟨Nat.le_of_ble_eq_true rfl, Nat.le_of_ble_eq_true rfl⟩ ⟨rfl, rfl⟩ rfl hl.1 rfl (Nat.le_of_ble_eq_true rfl) dL_law_929 ⟨hc, hs⟩) (fun r1 I2 G3 H locs h1 hH => ?_)
  refine lv_istore (lv' := [(5, .int r1), (4, .int (nI i)), (3, .ref (b + 124)), (2, .ref (b + 111)), (1, .ref (b + 0)), (0, .ref a0)]) hx hb dL_law_932 hl (by decide) rfl (fun ls hl => ?_)
  refine lv_aload_n hx hb dL_law_934 rfl (lv_at hl 3 rfl) ?_
  refine lv_aload_n hx hb dL_law_935 rfl (lv_at hl 5 rfl) ?_
  refine lv_iload hx hb dL_law_936 (lv_at hl 1 rfl) ?_
  refine lv_iconst (v := 1) hx hb dL_law_938 (by decide) ?_
  refine lv_iadd hx hb dL_law_939 ?_
  refine va_sld hx hb hS0 ha0 hbA hH.2 hin1 dL_law_940 ?_
  refine w_cI hH (w_rV (As := [.int (xs ((nI i) + (1 : Int32)).toNatClampNeg)]) (rest := []) hX hK hE hH (c_X6_count (xs ((nI i) + (1 : Int32)).toNatClampNeg) I2 (pm_count (xs ((nI i) + (1 : Int32)).toNatClampNeg) hi h1)) ck6 sh111 q5_108 q5_109 q5_110 q1_7 q5_111 hd_X6_count ⟨Nat.le_of_ble_eq_true rfl, Nat.le_of_ble_eq_true rfl⟩ ⟨rfl, rfl⟩ rfl hl.1 rfl (Nat.le_of_ble_eq_true rfl) dL_law_941 ⟨by show cells + 1 + 0 ≤ 601024; omega, by show slots + 6 + 0 ≤ 7293034; omega⟩) (fun r4 I5 H locs h2 hH => ?_)
  obtain ⟨hi2, hT, hR⟩ := st_count (xs ((nI i) + (1 : Int32)).toNatClampNeg) hi h1 h2
  refine lv_istore (lv' := [(6, .int r4), (5, .int r1), (4, .int (nI i)), (3, .ref (b + 124)), (2, .ref (b + 111)), (1, .ref (b + 0)), (0, .ref a0)]) hx hb dL_law_944 hl (by decide) rfl (fun ls hl => ?_)
  refine lv_aload_n hx hb dL_law_946 rfl (lv_at hl 4 rfl) ?_
  refine w_cIp hH (w_rV (As := []) (rest := []) hX hK hE hH (c_X6_thrown  I5 trivial) ck6 sh111 q4_137 q4_138 q4_139 q1_7 q4_140 hd_X6_thrown ⟨Nat.le_of_ble_eq_true rfl, Nat.le_of_ble_eq_true rfl⟩ ⟨rfl, rfl⟩ rfl hl.1 rfl (Nat.le_of_ble_eq_true rfl) dL_law_947 ⟨by show cells + 1 + 0 ≤ 601024; omega, by show slots + 6 + 0 ≤ 7293034; omega⟩) (fun r6 H locs h3 hH => ?_)
  refine lv_iload hx hb dL_law_950 (lv_at hl 1 rfl) ?_
  refine lv_icmp_eq (tgt := 957) hx hb dL_law_952 (by decide) (fun hc9 => ?_) (fun hc9 => absurd (h3.trans hT) hc9)
  refine lv_iload hx hb dL_law_957 (lv_at hl 1 rfl) ?_
  refine lv_if_ne (tgt := 974) hx hb dL_law_959 (by decide) (fun hc9 => ?_) (fun hc9 => ?_)
  · have hz := hc9
    refine lv_goto (tgt := 1212) hx hb dL_law_974 (by decide) ?_
    exact K I5 G3 _ _ _ hi2 hH (lv_sub hl [2, 3, 4, 5, 6] rfl)
  · have hR2 := hR hc9
    refine lv_aload_n hx hb dL_law_962 rfl (lv_at hl 3 rfl) ?_
    refine lv_iconst (v := 0) hx hb dL_law_963 (by decide) ?_
    refine w_lald hX hK hH dL_law_964 ?_
    refine lv_iload hx hb dL_law_965 (lv_at hl 0 rfl) ?_
    refine lv_i2l hx hb dL_law_967 rfl ?_
    refine W.lcmp hx hb dL_law_968 ?_
    refine lv_if_eq (tgt := 974) hx hb dL_law_969 (by decide) (fun hc8 => ?_) (fun hc8 => absurd ((lg_cmp_eq _ _).mpr hR2) hc8)
    refine lv_goto (tgt := 1212) hx hb dL_law_974 (by decide) ?_
    exact K I5 G3 _ _ _ hi2 hH (lv_sub hl [2, 3, 4, 5, 6] rfl)

set_option maxRecDepth 100000 in
set_option maxHeartbeats 4000000 in
theorem k_18 (C0 : wLx p m c s a0 meth D cs ad b L xs) (hst : l.stackTraces = false) (hL : L ≤ 2048) {i cells slots : Nat} (hi4 : i + 4 ≤ L) (hc : cells + 1 ≤ 601024) (hs : slots + 6 ≤ 7293034)
    (K : ∀ (I2 : wI) (G2 : wG) (H : Heap) (locs : List Loc) (ls : Array Slot), inv I2 → wH D cs b G2 I2 s H locs → lv_has ls 9 [(4, .int (nI i)), (3, .ref (b + 124)), (2, .ref (b + 111)), (1, .ref (b + 0)), (0, .ref a0)] → W p l e room_1 s m #[Value.ref a0] below meth c H locs (cells + 1) (slots + 6) Q (F0 m 1212 ls [])) :
    ∀ (I : wI) (G : wG) (H : Heap) (locs : List Loc) (ls : Array Slot), inv I → wH D cs b G I s H locs → lv_has ls 9 [(4, .int (nI i)), (3, .ref (b + 124)), (2, .ref (b + 111)), (1, .ref (b + 0)), (0, .ref a0)] → W p l e room_1 s m #[Value.ref a0] below meth c H locs cells slots Q (F0 m 977 ls []) := by
  intro I G H locs ls hi hH hl
  obtain ⟨hX, hr, hlk, hK, hE, hN, hS0, ha0, hbb⟩ := id C0
  have hx := hX.1
  have hb := hX.2.1
  have hown := hX.2.2.2.1
  have hts := hX.2.2.2.2
  have hbA : ¬ (fun q : Nat => b ≤ q) a0 := by show ¬ b ≤ a0; rw [hbb]; exact Nat.not_le.mpr ha0
  have hin1 : vp_in (nI i + (1 : Int32)) L := by rw [i_s]; exact i_in (by omega) (by omega)
  have hin2 : vp_in (nI i + (2 : Int32)) L := by rw [l_2, i_add]; exact i_in (by omega) (by omega)
  have hin3 : vp_in (nI i + (3 : Int32)) L := by rw [l_3, i_add]; exact i_in (by omega) (by omega)
  refine lv_aload_n hx hb dL_law_977 rfl (lv_at hl 3 rfl) ?_
  refine lv_aload_n hx hb dL_law_978 rfl (lv_at hl 4 rfl) ?_
  refine lv_iload hx hb dL_law_979 (lv_at hl 0 rfl) ?_
  refine lv_iconst (v := 1) hx hb dL_law_981 (by decide) ?_
  refine lv_iadd hx hb dL_law_982 ?_
  refine va_sld hx hb hS0 ha0 hbA hH.2 hin1 dL_law_983 ?_
  refine lv_aload_n hx hb dL_law_984 rfl (lv_at hl 1 rfl) ?_
  refine w_cIL hH (w_rSW (As := [.ref (b + 0), .int (xs ((nI i) + (1 : Int32)).toNatClampNeg), .ref (b + 124)]) (rest := []) hX hK hE hN hH (c_L_openIn hst (xs ((nI i) + (1 : Int32)).toNatClampNeg) I (fun h => ⟨hi.1, h⟩) (fun h => ⟨hi.1, h⟩) (fun E u h => h.2)) q4_59 q4_60 q1_0 q4_61 hd_L_openIn ⟨Nat.le_of_ble_eq_true rfl, Nat.le_of_ble_eq_true rfl⟩ ⟨rfl, rfl⟩ rfl hl.1 rfl (Nat.le_of_ble_eq_true rfl) dL_law_985 ⟨hc, hs⟩) (fun r1 I2 G3 H locs h1 hH => ?_)
  refine lv_istore (lv' := [(5, .int r1), (4, .int (nI i)), (3, .ref (b + 124)), (2, .ref (b + 111)), (1, .ref (b + 0)), (0, .ref a0)]) hx hb dL_law_988 hl (by decide) rfl (fun ls hl => ?_)
  refine lv_aload_n hx hb dL_law_990 rfl (lv_at hl 3 rfl) ?_
  refine lv_aload_n hx hb dL_law_991 rfl (lv_at hl 5 rfl) ?_
  refine lv_iload hx hb dL_law_992 (lv_at hl 1 rfl) ?_
  refine lv_iconst (v := 1) hx hb dL_law_994 (by decide) ?_
  refine lv_iadd hx hb dL_law_995 ?_
  refine va_sld hx hb hS0 ha0 hbA hH.2 hin1 dL_law_996 ?_
  refine w_cI hH (w_rV (As := [.int (xs ((nI i) + (1 : Int32)).toNatClampNeg)]) (rest := []) hX hK hE hH (c_X6_openIn (xs ((nI i) + (1 : Int32)).toNatClampNeg) I2 (pm_openIn (xs ((nI i) + (1 : Int32)).toNatClampNeg) hi h1)) ck6 sh111 q5_120 q5_121 q5_122 q1_7 q5_123 hd_X6_openIn ⟨Nat.le_of_ble_eq_true rfl, Nat.le_of_ble_eq_true rfl⟩ ⟨rfl, rfl⟩ rfl hl.1 rfl (Nat.le_of_ble_eq_true rfl) dL_law_997 ⟨by show cells + 1 + 0 ≤ 601024; omega, by show slots + 6 + 0 ≤ 7293034; omega⟩) (fun r4 I5 H locs h2 hH => ?_)
  obtain ⟨hi2, hT, hR⟩ := st_openIn (xs ((nI i) + (1 : Int32)).toNatClampNeg) hi h1 h2
  refine lv_istore (lv' := [(6, .int r4), (5, .int r1), (4, .int (nI i)), (3, .ref (b + 124)), (2, .ref (b + 111)), (1, .ref (b + 0)), (0, .ref a0)]) hx hb dL_law_1000 hl (by decide) rfl (fun ls hl => ?_)
  refine lv_aload_n hx hb dL_law_1002 rfl (lv_at hl 4 rfl) ?_
  refine w_cIp hH (w_rV (As := []) (rest := []) hX hK hE hH (c_X6_thrown  I5 trivial) ck6 sh111 q4_137 q4_138 q4_139 q1_7 q4_140 hd_X6_thrown ⟨Nat.le_of_ble_eq_true rfl, Nat.le_of_ble_eq_true rfl⟩ ⟨rfl, rfl⟩ rfl hl.1 rfl (Nat.le_of_ble_eq_true rfl) dL_law_1003 ⟨by show cells + 1 + 0 ≤ 601024; omega, by show slots + 6 + 0 ≤ 7293034; omega⟩) (fun r6 H locs h3 hH => ?_)
  refine lv_iload hx hb dL_law_1006 (lv_at hl 1 rfl) ?_
  refine lv_icmp_eq (tgt := 1013) hx hb dL_law_1008 (by decide) (fun hc9 => ?_) (fun hc9 => absurd (h3.trans hT) hc9)
  refine lv_iload hx hb dL_law_1013 (lv_at hl 1 rfl) ?_
  refine lv_if_ne (tgt := 1030) hx hb dL_law_1015 (by decide) (fun hc9 => ?_) (fun hc9 => ?_)
  · have hz := hc9
    refine lv_goto (tgt := 1212) hx hb dL_law_1030 (by decide) ?_
    exact K I5 G3 _ _ _ hi2 hH (lv_sub hl [2, 3, 4, 5, 6] rfl)
  · have hR2 := hR hc9
    refine lv_aload_n hx hb dL_law_1018 rfl (lv_at hl 3 rfl) ?_
    refine lv_iconst (v := 0) hx hb dL_law_1019 (by decide) ?_
    refine w_lald hX hK hH dL_law_1020 ?_
    refine lv_iload hx hb dL_law_1021 (lv_at hl 0 rfl) ?_
    refine lv_i2l hx hb dL_law_1023 rfl ?_
    refine W.lcmp hx hb dL_law_1024 ?_
    refine lv_if_eq (tgt := 1030) hx hb dL_law_1025 (by decide) (fun hc8 => ?_) (fun hc8 => absurd ((lg_cmp_eq _ _).mpr hR2) hc8)
    refine lv_goto (tgt := 1212) hx hb dL_law_1030 (by decide) ?_
    exact K I5 G3 _ _ _ hi2 hH (lv_sub hl [2, 3, 4, 5, 6] rfl)

set_option maxRecDepth 100000 in
set_option maxHeartbeats 4000000 in
theorem k_19 (C0 : wLx p m c s a0 meth D cs ad b L xs) (hst : l.stackTraces = false) (hL : L ≤ 2048) {i cells slots : Nat} (hi4 : i + 4 ≤ L) (hc : cells + 1 ≤ 601024) (hs : slots + 6 ≤ 7293034)
    (K : ∀ (I2 : wI) (G2 : wG) (H : Heap) (locs : List Loc) (ls : Array Slot), inv I2 → wH D cs b G2 I2 s H locs → lv_has ls 9 [(4, .int (nI i)), (3, .ref (b + 124)), (2, .ref (b + 111)), (1, .ref (b + 0)), (0, .ref a0)] → W p l e room_1 s m #[Value.ref a0] below meth c H locs (cells + 1) (slots + 6) Q (F0 m 1212 ls [])) :
    ∀ (I : wI) (G : wG) (H : Heap) (locs : List Loc) (ls : Array Slot), inv I → wH D cs b G I s H locs → lv_has ls 9 [(4, .int (nI i)), (3, .ref (b + 124)), (2, .ref (b + 111)), (1, .ref (b + 0)), (0, .ref a0)] → W p l e room_1 s m #[Value.ref a0] below meth c H locs cells slots Q (F0 m 1033 ls []) := by
  intro I G H locs ls hi hH hl
  obtain ⟨hX, hr, hlk, hK, hE, hN, hS0, ha0, hbb⟩ := id C0
  have hx := hX.1
  have hb := hX.2.1
  have hown := hX.2.2.2.1
  have hts := hX.2.2.2.2
  have hbA : ¬ (fun q : Nat => b ≤ q) a0 := by show ¬ b ≤ a0; rw [hbb]; exact Nat.not_le.mpr ha0
  have hin1 : vp_in (nI i + (1 : Int32)) L := by rw [i_s]; exact i_in (by omega) (by omega)
  have hin2 : vp_in (nI i + (2 : Int32)) L := by rw [l_2, i_add]; exact i_in (by omega) (by omega)
  have hin3 : vp_in (nI i + (3 : Int32)) L := by rw [l_3, i_add]; exact i_in (by omega) (by omega)
  refine lv_aload_n hx hb dL_law_1033 rfl (lv_at hl 3 rfl) ?_
  refine lv_aload_n hx hb dL_law_1034 rfl (lv_at hl 4 rfl) ?_
  refine lv_iload hx hb dL_law_1035 (lv_at hl 0 rfl) ?_
  refine lv_iconst (v := 1) hx hb dL_law_1037 (by decide) ?_
  refine lv_iadd hx hb dL_law_1038 ?_
  refine va_sld hx hb hS0 ha0 hbA hH.2 hin1 dL_law_1039 ?_
  refine lv_aload_n hx hb dL_law_1040 rfl (lv_at hl 4 rfl) ?_
  refine lv_iload hx hb dL_law_1041 (lv_at hl 0 rfl) ?_
  refine lv_iconst (v := 2) hx hb dL_law_1043 (by decide) ?_
  refine lv_iadd hx hb dL_law_1044 ?_
  refine va_sld hx hb hS0 ha0 hbA hH.2 hin2 dL_law_1045 ?_
  refine lv_aload_n hx hb dL_law_1046 rfl (lv_at hl 1 rfl) ?_
  refine w_cIL hH (w_rSW (As := [.ref (b + 0), .int (xs ((nI i) + (1 : Int32)).toNatClampNeg), .int (xs ((nI i) + (2 : Int32)).toNatClampNeg), .ref (b + 124)]) (rest := []) hX hK hE hN hH (c_L_ifTurned hst (xs ((nI i) + (1 : Int32)).toNatClampNeg) (xs ((nI i) + (2 : Int32)).toNatClampNeg) I (fun h => ⟨hi.1, h⟩) (fun h => ⟨hi.1, h⟩) (fun E u h => h.2.elim (fun q => Or.inl q.2) (fun q => Or.inr q.2))) q4_63 q4_64 q1_0 q4_65 hd_L_ifTurned ⟨Nat.le_of_ble_eq_true rfl, Nat.le_of_ble_eq_true rfl⟩ ⟨rfl, rfl⟩ rfl hl.1 rfl (Nat.le_of_ble_eq_true rfl) dL_law_1047 ⟨hc, hs⟩) (fun r1 I2 G3 H locs h1 hH => ?_)
  refine lv_istore (lv' := [(5, .int r1), (4, .int (nI i)), (3, .ref (b + 124)), (2, .ref (b + 111)), (1, .ref (b + 0)), (0, .ref a0)]) hx hb dL_law_1050 hl (by decide) rfl (fun ls hl => ?_)
  refine lv_aload_n hx hb dL_law_1052 rfl (lv_at hl 3 rfl) ?_
  refine lv_aload_n hx hb dL_law_1053 rfl (lv_at hl 5 rfl) ?_
  refine lv_iload hx hb dL_law_1054 (lv_at hl 1 rfl) ?_
  refine lv_iconst (v := 1) hx hb dL_law_1056 (by decide) ?_
  refine lv_iadd hx hb dL_law_1057 ?_
  refine va_sld hx hb hS0 ha0 hbA hH.2 hin1 dL_law_1058 ?_
  refine lv_aload_n hx hb dL_law_1059 rfl (lv_at hl 5 rfl) ?_
  refine lv_iload hx hb dL_law_1060 (lv_at hl 1 rfl) ?_
  refine lv_iconst (v := 2) hx hb dL_law_1062 (by decide) ?_
  refine lv_iadd hx hb dL_law_1063 ?_
  refine va_sld hx hb hS0 ha0 hbA hH.2 hin2 dL_law_1064 ?_
  refine w_cI hH (w_rV (As := [.int (xs ((nI i) + (1 : Int32)).toNatClampNeg), .int (xs ((nI i) + (2 : Int32)).toNatClampNeg)]) (rest := []) hX hK hE hH (c_X6_ifTurned (xs ((nI i) + (1 : Int32)).toNatClampNeg) (xs ((nI i) + (2 : Int32)).toNatClampNeg) I2 (pm_ifTurned (xs ((nI i) + (1 : Int32)).toNatClampNeg) (xs ((nI i) + (2 : Int32)).toNatClampNeg) hi h1)) ck6 sh111 q5_135 q5_136 q5_137 q1_7 q5_138 hd_X6_ifTurned ⟨Nat.le_of_ble_eq_true rfl, Nat.le_of_ble_eq_true rfl⟩ ⟨rfl, rfl⟩ rfl hl.1 rfl (Nat.le_of_ble_eq_true rfl) dL_law_1065 ⟨by show cells + 1 + 0 ≤ 601024; omega, by show slots + 6 + 0 ≤ 7293034; omega⟩) (fun r4 I5 H locs h2 hH => ?_)
  obtain ⟨hi2, hT, hR⟩ := st_ifTurned (xs ((nI i) + (1 : Int32)).toNatClampNeg) (xs ((nI i) + (2 : Int32)).toNatClampNeg) hi h1 h2
  refine lv_istore (lv' := [(6, .int r4), (5, .int r1), (4, .int (nI i)), (3, .ref (b + 124)), (2, .ref (b + 111)), (1, .ref (b + 0)), (0, .ref a0)]) hx hb dL_law_1068 hl (by decide) rfl (fun ls hl => ?_)
  refine lv_aload_n hx hb dL_law_1070 rfl (lv_at hl 4 rfl) ?_
  refine w_cIp hH (w_rV (As := []) (rest := []) hX hK hE hH (c_X6_thrown  I5 trivial) ck6 sh111 q4_137 q4_138 q4_139 q1_7 q4_140 hd_X6_thrown ⟨Nat.le_of_ble_eq_true rfl, Nat.le_of_ble_eq_true rfl⟩ ⟨rfl, rfl⟩ rfl hl.1 rfl (Nat.le_of_ble_eq_true rfl) dL_law_1071 ⟨by show cells + 1 + 0 ≤ 601024; omega, by show slots + 6 + 0 ≤ 7293034; omega⟩) (fun r6 H locs h3 hH => ?_)
  refine lv_iload hx hb dL_law_1074 (lv_at hl 1 rfl) ?_
  refine lv_icmp_eq (tgt := 1081) hx hb dL_law_1076 (by decide) (fun hc9 => ?_) (fun hc9 => absurd (h3.trans hT) hc9)
  refine lv_iload hx hb dL_law_1081 (lv_at hl 1 rfl) ?_
  refine lv_if_ne (tgt := 1098) hx hb dL_law_1083 (by decide) (fun hc9 => ?_) (fun hc9 => ?_)
  · have hz := hc9
    refine lv_goto (tgt := 1212) hx hb dL_law_1098 (by decide) ?_
    exact K I5 G3 _ _ _ hi2 hH (lv_sub hl [2, 3, 4, 5, 6] rfl)
  · have hR2 := hR hc9
    refine lv_aload_n hx hb dL_law_1086 rfl (lv_at hl 3 rfl) ?_
    refine lv_iconst (v := 0) hx hb dL_law_1087 (by decide) ?_
    refine w_lald hX hK hH dL_law_1088 ?_
    refine lv_iload hx hb dL_law_1089 (lv_at hl 0 rfl) ?_
    refine lv_i2l hx hb dL_law_1091 rfl ?_
    refine W.lcmp hx hb dL_law_1092 ?_
    refine lv_if_eq (tgt := 1098) hx hb dL_law_1093 (by decide) (fun hc8 => ?_) (fun hc8 => absurd ((lg_cmp_eq _ _).mpr hR2) hc8)
    refine lv_goto (tgt := 1212) hx hb dL_law_1098 (by decide) ?_
    exact K I5 G3 _ _ _ hi2 hH (lv_sub hl [2, 3, 4, 5, 6] rfl)

set_option maxRecDepth 100000 in
set_option maxHeartbeats 4000000 in
theorem k_20 (C0 : wLx p m c s a0 meth D cs ad b L xs) (hst : l.stackTraces = false) (hL : L ≤ 2048) {i cells slots : Nat} (hi4 : i + 4 ≤ L) (hc : cells + 1 ≤ 601024) (hs : slots + 6 ≤ 7293034)
    (K : ∀ (I2 : wI) (G2 : wG) (H : Heap) (locs : List Loc) (ls : Array Slot), inv I2 → wH D cs b G2 I2 s H locs → lv_has ls 9 [(4, .int (nI i)), (3, .ref (b + 124)), (2, .ref (b + 111)), (1, .ref (b + 0)), (0, .ref a0)] → W p l e room_1 s m #[Value.ref a0] below meth c H locs (cells + 1) (slots + 6) Q (F0 m 1212 ls [])) :
    ∀ (I : wI) (G : wG) (H : Heap) (locs : List Loc) (ls : Array Slot), inv I → wH D cs b G I s H locs → lv_has ls 9 [(4, .int (nI i)), (3, .ref (b + 124)), (2, .ref (b + 111)), (1, .ref (b + 0)), (0, .ref a0)] → W p l e room_1 s m #[Value.ref a0] below meth c H locs cells slots Q (F0 m 1101 ls []) := by
  intro I G H locs ls hi hH hl
  obtain ⟨hX, hr, hlk, hK, hE, hN, hS0, ha0, hbb⟩ := id C0
  have hx := hX.1
  have hb := hX.2.1
  have hown := hX.2.2.2.1
  have hts := hX.2.2.2.2
  have hbA : ¬ (fun q : Nat => b ≤ q) a0 := by show ¬ b ≤ a0; rw [hbb]; exact Nat.not_le.mpr ha0
  have hin1 : vp_in (nI i + (1 : Int32)) L := by rw [i_s]; exact i_in (by omega) (by omega)
  have hin2 : vp_in (nI i + (2 : Int32)) L := by rw [l_2, i_add]; exact i_in (by omega) (by omega)
  have hin3 : vp_in (nI i + (3 : Int32)) L := by rw [l_3, i_add]; exact i_in (by omega) (by omega)
  refine lv_aload_n hx hb dL_law_1101 rfl (lv_at hl 3 rfl) ?_
  refine w_cI hH (w_rV (As := []) (rest := []) hX hK hE hH (c_X5_closest  I hi.1) ck5 sh0 q2_86 q2_87 q2_88 q1_1 q2_89 hd_X5_closest ⟨Nat.le_of_ble_eq_true rfl, Nat.le_of_ble_eq_true rfl⟩ ⟨rfl, rfl⟩ rfl hl.1 rfl (Nat.le_of_ble_eq_true rfl) dL_law_1102 ⟨by show cells + 0 ≤ 601024; omega, by show slots + 0 ≤ 7293034; omega⟩) (fun r1 I2 H locs h1 hH => ?_)
  refine lv_aload_n hx hb dL_law_1105 rfl (lv_at hl 2 rfl) ?_
  refine w_cI hH (w_rV (As := []) (rest := [.int r1]) hX hK hE hH (c_X6_closest  I2 (pm_closest hi h1)) ck6 sh111 q5_143 q5_144 q5_145 q1_7 q5_146 hd_X6_closest ⟨Nat.le_of_ble_eq_true rfl, Nat.le_of_ble_eq_true rfl⟩ ⟨rfl, rfl⟩ rfl hl.1 rfl (Nat.le_of_ble_eq_true rfl) dL_law_1106 ⟨by show cells + 0 ≤ 601024; omega, by show slots + 0 ≤ 7293034; omega⟩) (fun r3 I4 H locs h2 hH => ?_)
  obtain ⟨hi2, hR⟩ := st_closest hi h1 h2
  refine lv_icmp_eq (tgt := 1212) hx hb dL_law_1109 (by decide) (fun hc9 => ?_) (fun hc9 => absurd (hR) hc9)
  refine W.widen (k := cells + 1) (n := slots + 6) (Nat.le_succ _) (Nat.le_add_right _ _) ?_
  exact K I4 G _ _ _ hi2 hH (lv_sub hl [0, 1, 2, 3, 4] rfl)

set_option maxRecDepth 100000 in
set_option maxHeartbeats 4000000 in
theorem k_21 (C0 : wLx p m c s a0 meth D cs ad b L xs) (hst : l.stackTraces = false) (hL : L ≤ 2048) {i cells slots : Nat} (hi4 : i + 4 ≤ L) (hc : cells + 1 ≤ 601024) (hs : slots + 6 ≤ 7293034)
    (K : ∀ (I2 : wI) (G2 : wG) (H : Heap) (locs : List Loc) (ls : Array Slot), inv I2 → wH D cs b G2 I2 s H locs → lv_has ls 9 [(4, .int (nI i)), (3, .ref (b + 124)), (2, .ref (b + 111)), (1, .ref (b + 0)), (0, .ref a0)] → W p l e room_1 s m #[Value.ref a0] below meth c H locs (cells + 1) (slots + 6) Q (F0 m 1212 ls [])) :
    ∀ (I : wI) (G : wG) (H : Heap) (locs : List Loc) (ls : Array Slot), inv I → wH D cs b G I s H locs → lv_has ls 9 [(4, .int (nI i)), (3, .ref (b + 124)), (2, .ref (b + 111)), (1, .ref (b + 0)), (0, .ref a0)] → W p l e room_1 s m #[Value.ref a0] below meth c H locs cells slots Q (F0 m 1114 ls []) := by
  intro I G H locs ls hi hH hl
  obtain ⟨hX, hr, hlk, hK, hE, hN, hS0, ha0, hbb⟩ := id C0
  have hx := hX.1
  have hb := hX.2.1
  have hown := hX.2.2.2.1
  have hts := hX.2.2.2.2
  have hbA : ¬ (fun q : Nat => b ≤ q) a0 := by show ¬ b ≤ a0; rw [hbb]; exact Nat.not_le.mpr ha0
  have hin1 : vp_in (nI i + (1 : Int32)) L := by rw [i_s]; exact i_in (by omega) (by omega)
  have hin2 : vp_in (nI i + (2 : Int32)) L := by rw [l_2, i_add]; exact i_in (by omega) (by omega)
  have hin3 : vp_in (nI i + (3 : Int32)) L := by rw [l_3, i_add]; exact i_in (by omega) (by omega)
  refine lv_aload_n hx hb dL_law_1114 rfl (lv_at hl 3 rfl) ?_
  refine w_cDp hH (w_rV (As := []) (rest := []) hX hK hE hH (c_X5_openShare  I hi.1) ck5 sh0 q2_112 q2_113 q2_114 q1_1 q2_115 hd_X5_openShare ⟨Nat.le_of_ble_eq_true rfl, Nat.le_of_ble_eq_true rfl⟩ ⟨rfl, rfl⟩ rfl hl.1 rfl (Nat.le_of_ble_eq_true rfl) dL_law_1115 ⟨by show cells + 0 ≤ 601024; omega, by show slots + 0 ≤ 7293034; omega⟩) (fun r1 H locs h1 hH => ?_)
  refine lv_dstore (lv' := [(5, .double r1), (4, .int (nI i)), (3, .ref (b + 124)), (2, .ref (b + 111)), (1, .ref (b + 0)), (0, .ref a0)]) hx hb dL_law_1118 hl (by decide) rfl (fun ls hl => ?_)
  refine lv_aload_n hx hb dL_law_1120 rfl (lv_at hl 3 rfl) ?_
  refine w_cD hH (w_rV (As := []) (rest := []) hX hK hE hH (c_X6_openShare  I hi.2.1) ck6 sh111 q5_151 q5_152 q5_153 q1_7 q5_154 hd_X6_openShare ⟨Nat.le_of_ble_eq_true rfl, Nat.le_of_ble_eq_true rfl⟩ ⟨rfl, rfl⟩ rfl hl.1 rfl (Nat.le_of_ble_eq_true rfl) dL_law_1121 ⟨by show cells + 0 ≤ 601024; omega, by show slots + 0 ≤ 7293034; omega⟩) (fun r2 I3 H locs h2 hH => ?_)
  obtain ⟨hi2, hR⟩ := st_openShare hi h1 h2
  refine lv_dstore (lv' := [(7, .double r2), (5, .double r1), (4, .int (nI i)), (3, .ref (b + 124)), (2, .ref (b + 111)), (1, .ref (b + 0)), (0, .ref a0)]) hx hb dL_law_1124 hl (by decide) rfl (fun ls hl => ?_)
  refine lv_dload hx hb dL_law_1126 (lv_at hl 1 rfl) ?_
  refine lv_dload hx hb dL_law_1128 (lv_at hl 0 rfl) ?_
  have cm0 : Op.cmpValue (FP.dcmp r1 r2) CmpOp.l = 0 := by rw [← hR]; exact os_cm hi h1
  refine lv_dcmp hx hb dL_law_1130 ?_
  refine lv_if_eq (tgt := 1152) hx hb dL_law_1131 (by decide) (fun hc8 => ?_) (fun hc8 => absurd (cm0) hc8)
  refine lv_goto (tgt := 1212) hx hb dL_law_1152 (by decide) ?_
  refine W.widen (k := cells + 1) (n := slots + 6) (Nat.le_succ _) (Nat.le_add_right _ _) ?_
  exact K I3 G _ _ _ hi2 hH (lv_sub hl [2, 3, 4, 5, 6] rfl)

set_option maxRecDepth 100000 in
set_option maxHeartbeats 4000000 in
theorem k_22 (C0 : wLx p m c s a0 meth D cs ad b L xs) (hst : l.stackTraces = false) (hL : L ≤ 2048) {i cells slots : Nat} (hi4 : i + 4 ≤ L) (hc : cells + 1 ≤ 601024) (hs : slots + 6 ≤ 7293034)
    (K : ∀ (I2 : wI) (G2 : wG) (H : Heap) (locs : List Loc) (ls : Array Slot), inv I2 → wH D cs b G2 I2 s H locs → lv_has ls 9 [(4, .int (nI i)), (3, .ref (b + 124)), (2, .ref (b + 111)), (1, .ref (b + 0)), (0, .ref a0)] → W p l e room_1 s m #[Value.ref a0] below meth c H locs (cells + 1) (slots + 6) Q (F0 m 1212 ls [])) :
    ∀ (I : wI) (G : wG) (H : Heap) (locs : List Loc) (ls : Array Slot), inv I → wH D cs b G I s H locs → lv_has ls 9 [(4, .int (nI i)), (3, .ref (b + 124)), (2, .ref (b + 111)), (1, .ref (b + 0)), (0, .ref a0)] → W p l e room_1 s m #[Value.ref a0] below meth c H locs cells slots Q (F0 m 1155 ls []) := by
  intro I G H locs ls hi hH hl
  obtain ⟨hX, hr, hlk, hK, hE, hN, hS0, ha0, hbb⟩ := id C0
  have hx := hX.1
  have hb := hX.2.1
  have hown := hX.2.2.2.1
  have hts := hX.2.2.2.2
  have hbA : ¬ (fun q : Nat => b ≤ q) a0 := by show ¬ b ≤ a0; rw [hbb]; exact Nat.not_le.mpr ha0
  have hin1 : vp_in (nI i + (1 : Int32)) L := by rw [i_s]; exact i_in (by omega) (by omega)
  have hin2 : vp_in (nI i + (2 : Int32)) L := by rw [l_2, i_add]; exact i_in (by omega) (by omega)
  have hin3 : vp_in (nI i + (3 : Int32)) L := by rw [l_3, i_add]; exact i_in (by omega) (by omega)
  refine lv_aload_n hx hb dL_law_1155 rfl (lv_at hl 3 rfl) ?_
  refine w_cFp hH (w_rV (As := []) (rest := []) hX hK hE hH (c_X5_meanNotch  I hi.1) ck5 sh0 q2_125 q2_126 q2_127 q1_1 q2_128 hd_X5_meanNotch ⟨Nat.le_of_ble_eq_true rfl, Nat.le_of_ble_eq_true rfl⟩ ⟨rfl, rfl⟩ rfl hl.1 rfl (Nat.le_of_ble_eq_true rfl) dL_law_1156 ⟨by show cells + 0 ≤ 601024; omega, by show slots + 0 ≤ 7293034; omega⟩) (fun r1 H locs h1 hH => ?_)
  refine lv_f2d hx hb dL_law_1159 (f2d_n (mn_ok hi h1)) ?_
  refine lv_dstore (lv' := [(5, .double (FP.f2d r1)), (4, .int (nI i)), (3, .ref (b + 124)), (2, .ref (b + 111)), (1, .ref (b + 0)), (0, .ref a0)]) hx hb dL_law_1160 hl (by decide) rfl (fun ls hl => ?_)
  refine lv_aload_n hx hb dL_law_1162 rfl (lv_at hl 3 rfl) ?_
  refine w_cF hH (w_rV (As := []) (rest := []) hX hK hE hH (c_X6_meanNotch  I hi.2.1) ck6 sh111 q5_156 q5_157 q5_158 q1_7 q5_159 hd_X6_meanNotch ⟨Nat.le_of_ble_eq_true rfl, Nat.le_of_ble_eq_true rfl⟩ ⟨rfl, rfl⟩ rfl hl.1 rfl (Nat.le_of_ble_eq_true rfl) dL_law_1163 ⟨by show cells + 0 ≤ 601024; omega, by show slots + 0 ≤ 7293034; omega⟩) (fun r2 I3 H locs h2 hH => ?_)
  obtain ⟨hi2, hR⟩ := st_meanNotch hi h1 h2
  refine lv_f2d hx hb dL_law_1166 (f2d_n (by rw [← hR]; exact mn_ok hi h1)) ?_
  refine lv_dstore (lv' := [(7, .double (FP.f2d r2)), (5, .double (FP.f2d r1)), (4, .int (nI i)), (3, .ref (b + 124)), (2, .ref (b + 111)), (1, .ref (b + 0)), (0, .ref a0)]) hx hb dL_law_1167 hl (by decide) rfl (fun ls hl => ?_)
  refine lv_dload hx hb dL_law_1169 (lv_at hl 1 rfl) ?_
  refine lv_dload hx hb dL_law_1171 (lv_at hl 0 rfl) ?_
  have cm0 : Op.cmpValue (FP.dcmp (FP.f2d r1) (FP.f2d r2)) CmpOp.l = 0 := by rw [← hR]; exact mn_cm hi h1
  refine lv_dcmp hx hb dL_law_1173 ?_
  refine lv_if_eq (tgt := 1195) hx hb dL_law_1174 (by decide) (fun hc8 => ?_) (fun hc8 => absurd (cm0) hc8)
  refine lv_goto (tgt := 1212) hx hb dL_law_1195 (by decide) ?_
  refine W.widen (k := cells + 1) (n := slots + 6) (Nat.le_succ _) (Nat.le_add_right _ _) ?_
  exact K I3 G _ _ _ hi2 hH (lv_sub hl [2, 3, 4, 5, 6] rfl)

set_option maxRecDepth 100000 in
set_option maxHeartbeats 4000000 in
theorem k_23 (C0 : wLx p m c s a0 meth D cs ad b L xs) (hst : l.stackTraces = false) (hL : L ≤ 2048) {i cells slots : Nat} (hi4 : i + 4 ≤ L) (hc : cells + 1 ≤ 601024) (hs : slots + 6 ≤ 7293034)
    (K : ∀ (I2 : wI) (G2 : wG) (H : Heap) (locs : List Loc) (ls : Array Slot), inv I2 → wH D cs b G2 I2 s H locs → lv_has ls 9 [(4, .int (nI i)), (3, .ref (b + 124)), (2, .ref (b + 111)), (1, .ref (b + 0)), (0, .ref a0)] → W p l e room_1 s m #[Value.ref a0] below meth c H locs (cells + 1) (slots + 6) Q (F0 m 1212 ls [])) :
    ∀ (I : wI) (G : wG) (H : Heap) (locs : List Loc) (ls : Array Slot), inv I → wH D cs b G I s H locs → lv_has ls 9 [(4, .int (nI i)), (3, .ref (b + 124)), (2, .ref (b + 111)), (1, .ref (b + 0)), (0, .ref a0)] → W p l e room_1 s m #[Value.ref a0] below meth c H locs cells slots Q (F0 m 1198 ls []) := by
  intro I G H locs ls hi hH hl
  obtain ⟨hX, hr, hlk, hK, hE, hN, hS0, ha0, hbb⟩ := id C0
  have hx := hX.1
  have hb := hX.2.1
  have hown := hX.2.2.2.1
  have hts := hX.2.2.2.2
  have hbA : ¬ (fun q : Nat => b ≤ q) a0 := by show ¬ b ≤ a0; rw [hbb]; exact Nat.not_le.mpr ha0
  have hin1 : vp_in (nI i + (1 : Int32)) L := by rw [i_s]; exact i_in (by omega) (by omega)
  have hin2 : vp_in (nI i + (2 : Int32)) L := by rw [l_2, i_add]; exact i_in (by omega) (by omega)
  have hin3 : vp_in (nI i + (3 : Int32)) L := by rw [l_3, i_add]; exact i_in (by omega) (by omega)
  refine lv_aload_n hx hb dL_law_1198 rfl (lv_at hl 3 rfl) ?_
  refine w_cL hH (w_rV (As := []) (rest := []) hX hK hE hH (c_X5_digest  I hi.1) ck5 sh0 q2_130 q2_131 q2_132 q1_1 q2_133 hd_X5_digest ⟨Nat.le_of_ble_eq_true rfl, Nat.le_of_ble_eq_true rfl⟩ ⟨rfl, rfl⟩ rfl hl.1 rfl (Nat.le_of_ble_eq_true rfl) dL_law_1199 ⟨by show cells + 0 ≤ 601024; omega, by show slots + 0 ≤ 7293034; omega⟩) (fun r1 I2 H locs h1 hH => ?_)
  refine lv_aload_n hx hb dL_law_1202 rfl (lv_at hl 2 rfl) ?_
  refine w_cL hH (w_rV (As := []) (rest := [.long r1]) hX hK hE hH (c_X6_digest  I2 (pm_digest hi h1)) ck6 sh111 q5_161 q5_162 q5_163 q1_7 q5_164 hd_X6_digest ⟨Nat.le_of_ble_eq_true rfl, Nat.le_of_ble_eq_true rfl⟩ ⟨rfl, rfl⟩ rfl hl.1 rfl (Nat.le_of_ble_eq_true rfl) dL_law_1203 ⟨by show cells + 0 ≤ 601024; omega, by show slots + 0 ≤ 7293034; omega⟩) (fun r3 I4 H locs h2 hH => ?_)
  obtain ⟨hi2, hR⟩ := st_digest hi h1 h2
  refine W.lcmp hx hb dL_law_1206 ?_
  refine lv_if_eq (tgt := 1212) hx hb dL_law_1207 (by decide) (fun hc8 => ?_) (fun hc8 => absurd ((lg_cmp_eq _ _).mpr hR) hc8)
  refine W.widen (k := cells + 1) (n := slots + 6) (Nat.le_succ _) (Nat.le_add_right _ _) ?_
  exact K I4 G _ _ _ hi2 hH (lv_sub hl [0, 1, 2, 3, 4] rfl)

end LAW
