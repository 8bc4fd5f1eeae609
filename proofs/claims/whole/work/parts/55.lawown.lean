section
abbrev rm_L_turn : Room := { frames := 11, cells := 1, slots := 6, locals := 184 }
abbrev hh_L_turn : List (Nat × Nat × Nat × Nat) := [(0, 9, 12, 13), (0, 9, 15, 15)]
theorem hd_L_turn : yL_turn.cls ≠ "java/lang/invoke/MethodHandle" ∧ yL_turn.cls ≠ "java/lang/invoke/VarHandle" ∧ (parseMethodDescriptor yL_turn.desc).map (fun d => d.parameters.length) = some 3 := by decide +kernel
def lpost_L_turn (x1 : Int32) (I : wI) (G : wG) (r : Int32) (u : wI × wG) : Prop := ((ok_X5_turn x1 I) ∧ r = 0 ∧ ∃ v : Int32, (post_X5_turn x1 I v u.1) ∧ u.2 = vp_updL G 0 v.toInt64) ∨ (¬ (ok_X5_turn x1 I) ∧ u.2 = G ∧ ∃ E : String, (exc_X5_turn x1 I E u.1) ∧ ((E = wIO ∧ r = 1) ∨ (E = wIS ∧ r = 2)))
set_option maxRecDepth 100000 in
set_option maxHeartbeats 4000000 in
theorem c_L_turn {l : Launch} {D : va_G} {cs : wC4} {ad : Nat → Nat} {b : Nat} {G : wG} (hst : l.stackTraces = false) (x1 : Int32) (I : wI) (hpn : ok_X5_turn x1 I → pre_X5_turn x1 I) (hpx : ¬ (ok_X5_turn x1 I) → pre_X5_turnx x1 I) (hdom : ∀ (E : String) (u : wI), exc_X5_turn x1 I E u → E = wIO ∨ E = wIS) : Met l yL_turn (wsL_ yL_turn cL_turn 4 hh_L_turn) rm_L_turn (va_Pc [.ref (b + 0), .int x1, .ref (b + 124)] (wPrL D cs ad b G I)) (va_Qi (lpost_L_turn x1 I G) (fun u t => wPo D cs b u.2 u.1 t) (fun q => b ≤ q)) 1 6 (fun q => b ≤ q) := by
  refine w_metW (by decide) (Nat.le_of_ble_eq_true rfl) ?_
  intro p e s m below meth c hX hr hlk htab hK hE hN hH ls hl
  have hX : CallFix p m c cL_turn 4 s _ lw_all RL := hX
  have hx := hX.1
  have hb := hX.2.1
  have hown := hX.2.2.2.1
  have hts := hX.2.2.2.2
  have hl : lv_has ls 4 [(0, .ref (b + 0)), (1, .int x1), (2, .ref (b + 124))] := hl
  refine lv_aload_n hx hb dL_turn_0 rfl (lv_at hl 2 rfl) ?_
  refine lv_iconst (v := 0) hx hb dL_turn_1 (by decide) ?_
  refine lv_aload_n hx hb dL_turn_2 rfl (lv_at hl 0 rfl) ?_
  refine lv_iload_n hx hb dL_turn_3 rfl (lv_at hl 1 rfl) ?_
  by_cases hok : ok_X5_turn x1 I
  · refine w_cI hH (w_rV (As := [.int x1]) (rest := [.int (0 : Int32), .ref (b + 124)]) hX hK hE hH (c_X5_turn _ _ (hpn hok)) ck5 sh0 q3_153 q3_154 q3_155 q1_1 q3_156 hd_X5_turn ⟨Nat.le_of_ble_eq_true rfl, Nat.le_of_ble_eq_true rfl⟩ ⟨rfl, rfl⟩ rfl hl.1 rfl (Nat.le_of_ble_eq_true rfl) dL_turn_4 ⟨Nat.zero_le _, Nat.zero_le _⟩) (fun r1 I1 H locs hpo hH => ?_)
    refine lv_i2l hx hb dL_turn_7 rfl ?_
    refine w_last hX hK hH dL_turn_8 (fun H locs hH => ?_)
    refine lv_goto (tgt := 18) hx hb dL_turn_9 (by decide) ?_
    refine lv_iconst (v := 0) hx hb dL_turn_18 (by decide) ?_
    refine W.widen (k := 1) (n := 6) (Nat.zero_le _) (Nat.zero_le _) ?_
    exact w_eIL hX hr hlk hH (Or.inl ⟨hok, rfl, r1, hpo, rfl⟩) dL_turn_19
  · refine w_xcI hH (w_xrV (As := [.int x1]) (rest := [.int (0 : Int32), .ref (b + 124)]) hX hK hE hH (c_X5_turnx hst _ _ (hpx hok)) ck5 sh0 q3_153 q3_154 q3_155 q1_1 q3_156 hd_X5_turn ⟨Nat.le_of_ble_eq_true rfl, Nat.le_of_ble_eq_true rfl⟩ ⟨rfl, rfl⟩ rfl hl.1 rfl (Nat.le_of_ble_eq_true rfl) dL_turn_4 ⟨Nat.le_of_ble_eq_true rfl, Nat.le_of_ble_eq_true rfl⟩) (fun E u H1 locs1 q9 ce hXE hH hce hcv hcl => ?_)
    rcases hdom E u hXE with rfl | rfl
    · refine vx_catch (name := wIO) hown [] (⟨0, 9, 12, 13⟩ : ExceptionTableEntry) [(⟨0, 9, 15, 15⟩ : ExceptionTableEntry)] (htab.trans rfl) (fun z hz => absurd hz List.not_mem_nil) (by decide) (by decide) (hts _ q3_151) (va_Nw.use rfl (hE.1 _ qn2_239)) hce hcv hcl ?_
      refine lv_astore_n (lv' := [(3, .ref q9), (0, .ref (b + 0)), (1, .int x1), (2, .ref (b + 124))]) hx hb dL_turn_12 rfl hl (by decide) rfl (fun ls hl => ?_)
      refine lv_iconst (v := 1) hx hb dL_turn_13 (by decide) ?_
      exact w_eIL hX hr hlk hH (Or.inr ⟨hok, rfl, wIO, hXE, Or.inl ⟨rfl, rfl⟩⟩) dL_turn_14
    · refine vx_catch (name := wIS) hown [(⟨0, 9, 12, 13⟩ : ExceptionTableEntry)] (⟨0, 9, 15, 15⟩ : ExceptionTableEntry) [] (htab.trans rfl) (fun z hz => by have hz := List.mem_singleton.mp hz; subst hz; exact Or.inr ⟨by decide, wIO, hts _ q3_151, hN.1⟩) (by decide) (by decide) (hts _ q3_152) (va_Nw.use rfl (hE.1 _ qn3_163)) hce hcv hcl ?_
      refine lv_astore_n (lv' := [(3, .ref q9), (0, .ref (b + 0)), (1, .int x1), (2, .ref (b + 124))]) hx hb dL_turn_15 rfl hl (by decide) rfl (fun ls hl => ?_)
      refine lv_iconst (v := 2) hx hb dL_turn_16 (by decide) ?_
      exact w_eIL hX hr hlk hH (Or.inr ⟨hok, rfl, wIS, hXE, Or.inr ⟨rfl, rfl⟩⟩) dL_turn_17
abbrev rm_L_back : Room := { frames := 11, cells := 1, slots := 6, locals := 184 }
abbrev hh_L_back : List (Nat × Nat × Nat × Nat) := [(0, 9, 12, 13), (0, 9, 15, 15)]
theorem hd_L_back : yL_back.cls ≠ "java/lang/invoke/MethodHandle" ∧ yL_back.cls ≠ "java/lang/invoke/VarHandle" ∧ (parseMethodDescriptor yL_back.desc).map (fun d => d.parameters.length) = some 3 := by decide +kernel
def lpost_L_back (x1 : Int32) (I : wI) (G : wG) (r : Int32) (u : wI × wG) : Prop := ((ok_X5_back x1 I) ∧ r = 0 ∧ ∃ v : Int32, (post_X5_back x1 I v u.1) ∧ u.2 = vp_updL G 0 v.toInt64) ∨ (¬ (ok_X5_back x1 I) ∧ u.2 = G ∧ ∃ E : String, (exc_X5_back x1 I E u.1) ∧ ((E = wIO ∧ r = 1) ∨ (E = wIS ∧ r = 2)))
set_option maxRecDepth 100000 in
set_option maxHeartbeats 4000000 in
theorem c_L_back {l : Launch} {D : va_G} {cs : wC4} {ad : Nat → Nat} {b : Nat} {G : wG} (hst : l.stackTraces = false) (x1 : Int32) (I : wI) (hpn : ok_X5_back x1 I → pre_X5_back x1 I) (hpx : ¬ (ok_X5_back x1 I) → pre_X5_backx x1 I) (hdom : ∀ (E : String) (u : wI), exc_X5_back x1 I E u → E = wIO ∨ E = wIS) : Met l yL_back (wsL_ yL_back cL_back 4 hh_L_back) rm_L_back (va_Pc [.ref (b + 0), .int x1, .ref (b + 124)] (wPrL D cs ad b G I)) (va_Qi (lpost_L_back x1 I G) (fun u t => wPo D cs b u.2 u.1 t) (fun q => b ≤ q)) 1 6 (fun q => b ≤ q) := by
  refine w_metW (by decide) (Nat.le_of_ble_eq_true rfl) ?_
  intro p e s m below meth c hX hr hlk htab hK hE hN hH ls hl
  have hX : CallFix p m c cL_back 4 s _ lw_all RL := hX
  have hx := hX.1
  have hb := hX.2.1
  have hown := hX.2.2.2.1
  have hts := hX.2.2.2.2
  have hl : lv_has ls 4 [(0, .ref (b + 0)), (1, .int x1), (2, .ref (b + 124))] := hl
  refine lv_aload_n hx hb dL_back_0 rfl (lv_at hl 2 rfl) ?_
  refine lv_iconst (v := 0) hx hb dL_back_1 (by decide) ?_
  refine lv_aload_n hx hb dL_back_2 rfl (lv_at hl 0 rfl) ?_
  refine lv_iload_n hx hb dL_back_3 rfl (lv_at hl 1 rfl) ?_
  by_cases hok : ok_X5_back x1 I
  · refine w_cI hH (w_rV (As := [.int x1]) (rest := [.int (0 : Int32), .ref (b + 124)]) hX hK hE hH (c_X5_back _ _ (hpn hok)) ck5 sh0 q3_194 q3_195 q3_196 q1_1 q3_197 hd_X5_back ⟨Nat.le_of_ble_eq_true rfl, Nat.le_of_ble_eq_true rfl⟩ ⟨rfl, rfl⟩ rfl hl.1 rfl (Nat.le_of_ble_eq_true rfl) dL_back_4 ⟨Nat.zero_le _, Nat.zero_le _⟩) (fun r1 I1 H locs hpo hH => ?_)
    refine lv_i2l hx hb dL_back_7 rfl ?_
    refine w_last hX hK hH dL_back_8 (fun H locs hH => ?_)
    refine lv_goto (tgt := 18) hx hb dL_back_9 (by decide) ?_
    refine lv_iconst (v := 0) hx hb dL_back_18 (by decide) ?_
    refine W.widen (k := 1) (n := 6) (Nat.zero_le _) (Nat.zero_le _) ?_
    exact w_eIL hX hr hlk hH (Or.inl ⟨hok, rfl, r1, hpo, rfl⟩) dL_back_19
  · refine w_xcI hH (w_xrV (As := [.int x1]) (rest := [.int (0 : Int32), .ref (b + 124)]) hX hK hE hH (c_X5_backx hst _ _ (hpx hok)) ck5 sh0 q3_194 q3_195 q3_196 q1_1 q3_197 hd_X5_back ⟨Nat.le_of_ble_eq_true rfl, Nat.le_of_ble_eq_true rfl⟩ ⟨rfl, rfl⟩ rfl hl.1 rfl (Nat.le_of_ble_eq_true rfl) dL_back_4 ⟨Nat.le_of_ble_eq_true rfl, Nat.le_of_ble_eq_true rfl⟩) (fun E u H1 locs1 q9 ce hXE hH hce hcv hcl => ?_)
    rcases hdom E u hXE with rfl | rfl
    · refine vx_catch (name := wIO) hown [] (⟨0, 9, 12, 13⟩ : ExceptionTableEntry) [(⟨0, 9, 15, 15⟩ : ExceptionTableEntry)] (htab.trans rfl) (fun z hz => absurd hz List.not_mem_nil) (by decide) (by decide) (hts _ q3_151) (va_Nw.use rfl (hE.1 _ qn2_239)) hce hcv hcl ?_
      refine lv_astore_n (lv' := [(3, .ref q9), (0, .ref (b + 0)), (1, .int x1), (2, .ref (b + 124))]) hx hb dL_back_12 rfl hl (by decide) rfl (fun ls hl => ?_)
      refine lv_iconst (v := 1) hx hb dL_back_13 (by decide) ?_
      exact w_eIL hX hr hlk hH (Or.inr ⟨hok, rfl, wIO, hXE, Or.inl ⟨rfl, rfl⟩⟩) dL_back_14
    · refine vx_catch (name := wIS) hown [(⟨0, 9, 12, 13⟩ : ExceptionTableEntry)] (⟨0, 9, 15, 15⟩ : ExceptionTableEntry) [] (htab.trans rfl) (fun z hz => by have hz := List.mem_singleton.mp hz; subst hz; exact Or.inr ⟨by decide, wIO, hts _ q3_151, hN.1⟩) (by decide) (by decide) (hts _ q3_152) (va_Nw.use rfl (hE.1 _ qn3_163)) hce hcv hcl ?_
      refine lv_astore_n (lv' := [(3, .ref q9), (0, .ref (b + 0)), (1, .int x1), (2, .ref (b + 124))]) hx hb dL_back_15 rfl hl (by decide) rfl (fun ls hl => ?_)
      refine lv_iconst (v := 2) hx hb dL_back_16 (by decide) ?_
      exact w_eIL hX hr hlk hH (Or.inr ⟨hok, rfl, wIS, hXE, Or.inr ⟨rfl, rfl⟩⟩) dL_back_17
abbrev rm_L_word : Room := { frames := 9, cells := 1, slots := 6, locals := 151 }
abbrev hh_L_word : List (Nat × Nat × Nat × Nat) := [(0, 8, 11, 24), (0, 8, 14, 15)]
theorem hd_L_word : yL_word.cls ≠ "java/lang/invoke/MethodHandle" ∧ yL_word.cls ≠ "java/lang/invoke/VarHandle" ∧ (parseMethodDescriptor yL_word.desc).map (fun d => d.parameters.length) = some 2 := by decide +kernel
def lpost_L_word  (I : wI) (G : wG) (r : Int32) (u : wI × wG) : Prop := ((ok_X5_word  I) ∧ r = 0 ∧ ∃ v : Int32, (post_X5_word  I v u.1) ∧ u.2 = vp_updL G 0 v.toInt64) ∨ (¬ (ok_X5_word  I) ∧ u.2 = G ∧ ∃ E : String, (exc_X5_word  I E u.1) ∧ ((E = wIA ∧ r = 1) ∨ (E = wIS ∧ r = 2)))
set_option maxRecDepth 100000 in
set_option maxHeartbeats 4000000 in
theorem c_L_word {l : Launch} {D : va_G} {cs : wC4} {ad : Nat → Nat} {b : Nat} {G : wG} (hst : l.stackTraces = false)  (I : wI) (hpn : ok_X5_word  I → pre_X5_word  I) (hpx : ¬ (ok_X5_word  I) → pre_X5_wordx  I) (hdom : ∀ (E : String) (u : wI), exc_X5_word  I E u → E = wIA ∨ E = wIS) : Met l yL_word (wsL_ yL_word cL_word 3 hh_L_word) rm_L_word (va_Pc [.ref (b + 0), .ref (b + 124)] (wPrL D cs ad b G I)) (va_Qi (lpost_L_word  I G) (fun u t => wPo D cs b u.2 u.1 t) (fun q => b ≤ q)) 1 6 (fun q => b ≤ q) := by
  refine w_metW (by decide) (Nat.le_of_ble_eq_true rfl) ?_
  intro p e s m below meth c hX hr hlk htab hK hE hN hH ls hl
  have hX : CallFix p m c cL_word 3 s _ lw_all RL := hX
  have hx := hX.1
  have hb := hX.2.1
  have hown := hX.2.2.2.1
  have hts := hX.2.2.2.2
  have hl : lv_has ls 3 [(0, .ref (b + 0)), (1, .ref (b + 124))] := hl
  refine lv_aload_n hx hb dL_word_0 rfl (lv_at hl 1 rfl) ?_
  refine lv_iconst (v := 0) hx hb dL_word_1 (by decide) ?_
  refine lv_aload_n hx hb dL_word_2 rfl (lv_at hl 0 rfl) ?_
  by_cases hok : ok_X5_word  I
  · refine w_cI hH (w_rV (As := []) (rest := [.int (0 : Int32), .ref (b + 124)]) hX hK hE hH (c_X5_word  _ (hpn hok)) ck5 sh0 q3_202 q3_203 q3_204 q1_1 q3_205 hd_X5_word ⟨Nat.le_of_ble_eq_true rfl, Nat.le_of_ble_eq_true rfl⟩ ⟨rfl, rfl⟩ rfl hl.1 rfl (Nat.le_of_ble_eq_true rfl) dL_word_3 ⟨Nat.zero_le _, Nat.zero_le _⟩) (fun r1 I1 H locs hpo hH => ?_)
    refine lv_i2l hx hb dL_word_6 rfl ?_
    refine w_last hX hK hH dL_word_7 (fun H locs hH => ?_)
    refine lv_goto (tgt := 17) hx hb dL_word_8 (by decide) ?_
    refine lv_iconst (v := 0) hx hb dL_word_17 (by decide) ?_
    refine W.widen (k := 1) (n := 6) (Nat.zero_le _) (Nat.zero_le _) ?_
    exact w_eIL hX hr hlk hH (Or.inl ⟨hok, rfl, r1, hpo, rfl⟩) dL_word_18
  · refine w_xcI hH (w_xrV (As := []) (rest := [.int (0 : Int32), .ref (b + 124)]) hX hK hE hH (c_X5_wordx hst  _ (hpx hok)) ck5 sh0 q3_202 q3_203 q3_204 q1_1 q3_205 hd_X5_word ⟨Nat.le_of_ble_eq_true rfl, Nat.le_of_ble_eq_true rfl⟩ ⟨rfl, rfl⟩ rfl hl.1 rfl (Nat.le_of_ble_eq_true rfl) dL_word_3 ⟨Nat.le_of_ble_eq_true rfl, Nat.le_of_ble_eq_true rfl⟩) (fun E u H1 locs1 q9 ce hXE hH hce hcv hcl => ?_)
    rcases hdom E u hXE with rfl | rfl
    · refine vx_catch (name := wIA) hown [] (⟨0, 8, 11, 24⟩ : ExceptionTableEntry) [(⟨0, 8, 14, 15⟩ : ExceptionTableEntry)] (htab.trans rfl) (fun z hz => absurd hz List.not_mem_nil) (by decide) (by decide) (hts _ q3_201) (va_Nw.use rfl (hE.1 _ qn2_156)) hce hcv hcl ?_
      refine lv_astore_n (lv' := [(2, .ref q9), (0, .ref (b + 0)), (1, .ref (b + 124))]) hx hb dL_word_11 rfl hl (by decide) rfl (fun ls hl => ?_)
      refine lv_iconst (v := 1) hx hb dL_word_12 (by decide) ?_
      exact w_eIL hX hr hlk hH (Or.inr ⟨hok, rfl, wIA, hXE, Or.inl ⟨rfl, rfl⟩⟩) dL_word_13
    · refine vx_catch (name := wIS) hown [(⟨0, 8, 11, 24⟩ : ExceptionTableEntry)] (⟨0, 8, 14, 15⟩ : ExceptionTableEntry) [] (htab.trans rfl) (fun z hz => by have hz := List.mem_singleton.mp hz; subst hz; exact Or.inr ⟨by decide, wIA, hts _ q3_201, hN.2.1⟩) (by decide) (by decide) (hts _ q3_152) (va_Nw.use rfl (hE.1 _ qn3_163)) hce hcv hcl ?_
      refine lv_astore_n (lv' := [(2, .ref q9), (0, .ref (b + 0)), (1, .ref (b + 124))]) hx hb dL_word_14 rfl hl (by decide) rfl (fun ls hl => ?_)
      refine lv_iconst (v := 2) hx hb dL_word_15 (by decide) ?_
      exact w_eIL hX hr hlk hH (Or.inr ⟨hok, rfl, wIS, hXE, Or.inr ⟨rfl, rfl⟩⟩) dL_word_16
abbrev rm_L_cut : Room := { frames := 10, cells := 1, slots := 6, locals := 164 }
abbrev hh_L_cut : List (Nat × Nat × Nat × Nat) := [(0, 12, 15, 13), (0, 12, 19, 24)]
theorem hd_L_cut : yL_cut.cls ≠ "java/lang/invoke/MethodHandle" ∧ yL_cut.cls ≠ "java/lang/invoke/VarHandle" ∧ (parseMethodDescriptor yL_cut.desc).map (fun d => d.parameters.length) = some 5 := by decide +kernel
def lpost_L_cut (x1 : Int32) (x2 : Int32) (x3 : Int32) (I : wI) (G : wG) (r : Int32) (u : wI × wG) : Prop := ((ok_X5_cut x1 x2 x3 I) ∧ r = 0 ∧ ∃ v : Int32, (post_X5_cut x1 x2 x3 I v u.1) ∧ u.2 = vp_updL G 0 v.toInt64) ∨ (¬ (ok_X5_cut x1 x2 x3 I) ∧ u.2 = G ∧ ∃ E : String, (exc_X5_cut x1 x2 x3 I E u.1) ∧ ((E = wIO ∧ r = 1) ∨ (E = wIA ∧ r = 2)))
set_option maxRecDepth 100000 in
set_option maxHeartbeats 4000000 in
theorem c_L_cut {l : Launch} {D : va_G} {cs : wC4} {ad : Nat → Nat} {b : Nat} {G : wG} (hst : l.stackTraces = false) (x1 : Int32) (x2 : Int32) (x3 : Int32) (I : wI) (hpn : ok_X5_cut x1 x2 x3 I → pre_X5_cut x1 x2 x3 I) (hpx : ¬ (ok_X5_cut x1 x2 x3 I) → pre_X5_cutx x1 x2 x3 I) (hdom : ∀ (E : String) (u : wI), exc_X5_cut x1 x2 x3 I E u → E = wIO ∨ E = wIA) : Met l yL_cut (wsL_ yL_cut cL_cut 6 hh_L_cut) rm_L_cut (va_Pc [.ref (b + 0), .int x1, .int x2, .int x3, .ref (b + 124)] (wPrL D cs ad b G I)) (va_Qi (lpost_L_cut x1 x2 x3 I G) (fun u t => wPo D cs b u.2 u.1 t) (fun q => b ≤ q)) 1 6 (fun q => b ≤ q) := by
  refine w_metW (by decide) (Nat.le_of_ble_eq_true rfl) ?_
  intro p e s m below meth c hX hr hlk htab hK hE hN hH ls hl
  have hX : CallFix p m c cL_cut 6 s _ lw_all RL := hX
  have hx := hX.1
  have hb := hX.2.1
  have hown := hX.2.2.2.1
  have hts := hX.2.2.2.2
  have hl : lv_has ls 6 [(0, .ref (b + 0)), (1, .int x1), (2, .int x2), (3, .int x3), (4, .ref (b + 124))] := hl
  refine lv_aload hx hb dL_cut_0 (lv_at hl 4 rfl) ?_
  refine lv_iconst (v := 0) hx hb dL_cut_2 (by decide) ?_
  refine lv_aload_n hx hb dL_cut_3 rfl (lv_at hl 0 rfl) ?_
  refine lv_iload_n hx hb dL_cut_4 rfl (lv_at hl 1 rfl) ?_
  refine lv_iload_n hx hb dL_cut_5 rfl (lv_at hl 2 rfl) ?_
  refine lv_iload_n hx hb dL_cut_6 rfl (lv_at hl 3 rfl) ?_
  by_cases hok : ok_X5_cut x1 x2 x3 I
  · refine w_cI hH (w_rV (As := [.int x1, .int x2, .int x3]) (rest := [.int (0 : Int32), .ref (b + 124)]) hX hK hE hH (c_X5_cut _ _ _ _ (hpn hok)) ck5 sh0 q3_212 q3_213 q3_214 q1_1 q3_215 hd_X5_cut ⟨Nat.le_of_ble_eq_true rfl, Nat.le_of_ble_eq_true rfl⟩ ⟨rfl, rfl⟩ rfl hl.1 rfl (Nat.le_of_ble_eq_true rfl) dL_cut_7 ⟨Nat.zero_le _, Nat.zero_le _⟩) (fun r1 I1 H locs hpo hH => ?_)
    refine lv_i2l hx hb dL_cut_10 rfl ?_
    refine w_last hX hK hH dL_cut_11 (fun H locs hH => ?_)
    refine lv_goto (tgt := 23) hx hb dL_cut_12 (by decide) ?_
    refine lv_iconst (v := 0) hx hb dL_cut_23 (by decide) ?_
    refine W.widen (k := 1) (n := 6) (Nat.zero_le _) (Nat.zero_le _) ?_
    exact w_eIL hX hr hlk hH (Or.inl ⟨hok, rfl, r1, hpo, rfl⟩) dL_cut_24
  · refine w_xcI hH (w_xrV (As := [.int x1, .int x2, .int x3]) (rest := [.int (0 : Int32), .ref (b + 124)]) hX hK hE hH (c_X5_cutx hst _ _ _ _ (hpx hok)) ck5 sh0 q3_212 q3_213 q3_214 q1_1 q3_215 hd_X5_cut ⟨Nat.le_of_ble_eq_true rfl, Nat.le_of_ble_eq_true rfl⟩ ⟨rfl, rfl⟩ rfl hl.1 rfl (Nat.le_of_ble_eq_true rfl) dL_cut_7 ⟨Nat.le_of_ble_eq_true rfl, Nat.le_of_ble_eq_true rfl⟩) (fun E u H1 locs1 q9 ce hXE hH hce hcv hcl => ?_)
    rcases hdom E u hXE with rfl | rfl
    · refine vx_catch (name := wIO) hown [] (⟨0, 12, 15, 13⟩ : ExceptionTableEntry) [(⟨0, 12, 19, 24⟩ : ExceptionTableEntry)] (htab.trans rfl) (fun z hz => absurd hz List.not_mem_nil) (by decide) (by decide) (hts _ q3_151) (va_Nw.use rfl (hE.1 _ qn2_239)) hce hcv hcl ?_
      refine lv_astore (lv' := [(5, .ref q9), (0, .ref (b + 0)), (1, .int x1), (2, .int x2), (3, .int x3), (4, .ref (b + 124))]) hx hb dL_cut_15 hl (by decide) rfl (fun ls hl => ?_)
      refine lv_iconst (v := 1) hx hb dL_cut_17 (by decide) ?_
      exact w_eIL hX hr hlk hH (Or.inr ⟨hok, rfl, wIO, hXE, Or.inl ⟨rfl, rfl⟩⟩) dL_cut_18
    · refine vx_catch (name := wIA) hown [(⟨0, 12, 15, 13⟩ : ExceptionTableEntry)] (⟨0, 12, 19, 24⟩ : ExceptionTableEntry) [] (htab.trans rfl) (fun z hz => by have hz := List.mem_singleton.mp hz; subst hz; exact Or.inr ⟨by decide, wIO, hts _ q3_151, hN.2.2⟩) (by decide) (by decide) (hts _ q3_201) (va_Nw.use rfl (hE.1 _ qn2_156)) hce hcv hcl ?_
      refine lv_astore (lv' := [(5, .ref q9), (0, .ref (b + 0)), (1, .int x1), (2, .int x2), (3, .int x3), (4, .ref (b + 124))]) hx hb dL_cut_19 hl (by decide) rfl (fun ls hl => ?_)
      refine lv_iconst (v := 2) hx hb dL_cut_21 (by decide) ?_
      exact w_eIL hX hr hlk hH (Or.inr ⟨hok, rfl, wIA, hXE, Or.inr ⟨rfl, rfl⟩⟩) dL_cut_22
abbrev rm_L_stick : Room := { frames := 10, cells := 1, slots := 6, locals := 161 }
abbrev hh_L_stick : List (Nat × Nat × Nat × Nat) := [(0, 9, 12, 13)]
theorem hd_L_stick : yL_stick.cls ≠ "java/lang/invoke/MethodHandle" ∧ yL_stick.cls ≠ "java/lang/invoke/VarHandle" ∧ (parseMethodDescriptor yL_stick.desc).map (fun d => d.parameters.length) = some 3 := by decide +kernel
def lpost_L_stick (x1 : Int32) (I : wI) (G : wG) (r : Int32) (u : wI × wG) : Prop := ((ok_X5_stick x1 I) ∧ r = 0 ∧ ∃ v : Int32, (post_X5_stick x1 I v u.1) ∧ u.2 = vp_updL G 0 v.toInt64) ∨ (¬ (ok_X5_stick x1 I) ∧ u.2 = G ∧ ∃ E : String, (exc_X5_stick x1 I E u.1) ∧ ((E = wIO ∧ r = 1)))
set_option maxRecDepth 100000 in
set_option maxHeartbeats 4000000 in
theorem c_L_stick {l : Launch} {D : va_G} {cs : wC4} {ad : Nat → Nat} {b : Nat} {G : wG} (hst : l.stackTraces = false) (x1 : Int32) (I : wI) (hpn : ok_X5_stick x1 I → pre_X5_stick x1 I) (hpx : ¬ (ok_X5_stick x1 I) → pre_X5_stickx x1 I) (hdom : ∀ (E : String) (u : wI), exc_X5_stick x1 I E u → E = wIO) : Met l yL_stick (wsL_ yL_stick cL_stick 4 hh_L_stick) rm_L_stick (va_Pc [.ref (b + 0), .int x1, .ref (b + 124)] (wPrL D cs ad b G I)) (va_Qi (lpost_L_stick x1 I G) (fun u t => wPo D cs b u.2 u.1 t) (fun q => b ≤ q)) 1 6 (fun q => b ≤ q) := by
  refine w_metW (by decide) (Nat.le_of_ble_eq_true rfl) ?_
  intro p e s m below meth c hX hr hlk htab hK hE hN hH ls hl
  have hX : CallFix p m c cL_stick 4 s _ lw_all RL := hX
  have hx := hX.1
  have hb := hX.2.1
  have hown := hX.2.2.2.1
  have hts := hX.2.2.2.2
  have hl : lv_has ls 4 [(0, .ref (b + 0)), (1, .int x1), (2, .ref (b + 124))] := hl
  refine lv_aload_n hx hb dL_stick_0 rfl (lv_at hl 2 rfl) ?_
  refine lv_iconst (v := 0) hx hb dL_stick_1 (by decide) ?_
  refine lv_aload_n hx hb dL_stick_2 rfl (lv_at hl 0 rfl) ?_
  refine lv_iload_n hx hb dL_stick_3 rfl (lv_at hl 1 rfl) ?_
  by_cases hok : ok_X5_stick x1 I
  · refine w_cI hH (w_rV (As := [.int x1]) (rest := [.int (0 : Int32), .ref (b + 124)]) hX hK hE hH (c_X5_stick _ _ (hpn hok)) ck5 sh0 q3_227 q3_228 q3_229 q1_1 q3_230 hd_X5_stick ⟨Nat.le_of_ble_eq_true rfl, Nat.le_of_ble_eq_true rfl⟩ ⟨rfl, rfl⟩ rfl hl.1 rfl (Nat.le_of_ble_eq_true rfl) dL_stick_4 ⟨Nat.zero_le _, Nat.zero_le _⟩) (fun r1 I1 H locs hpo hH => ?_)
    refine lv_i2l hx hb dL_stick_7 rfl ?_
    refine w_last hX hK hH dL_stick_8 (fun H locs hH => ?_)
    refine lv_goto (tgt := 15) hx hb dL_stick_9 (by decide) ?_
    refine lv_iconst (v := 0) hx hb dL_stick_15 (by decide) ?_
    refine W.widen (k := 1) (n := 6) (Nat.zero_le _) (Nat.zero_le _) ?_
    exact w_eIL hX hr hlk hH (Or.inl ⟨hok, rfl, r1, hpo, rfl⟩) dL_stick_16
  · refine w_xcI hH (w_xrV (As := [.int x1]) (rest := [.int (0 : Int32), .ref (b + 124)]) hX hK hE hH (c_X5_stickx hst _ _ (hpx hok)) ck5 sh0 q3_227 q3_228 q3_229 q1_1 q3_230 hd_X5_stick ⟨Nat.le_of_ble_eq_true rfl, Nat.le_of_ble_eq_true rfl⟩ ⟨rfl, rfl⟩ rfl hl.1 rfl (Nat.le_of_ble_eq_true rfl) dL_stick_4 ⟨Nat.le_of_ble_eq_true rfl, Nat.le_of_ble_eq_true rfl⟩) (fun E u H1 locs1 q9 ce hXE hH hce hcv hcl => ?_)
    rcases hdom E u hXE with rfl
    · refine vx_catch (name := wIO) hown [] (⟨0, 9, 12, 13⟩ : ExceptionTableEntry) [] (htab.trans rfl) (fun z hz => absurd hz List.not_mem_nil) (by decide) (by decide) (hts _ q3_151) (va_Nw.use rfl (hE.1 _ qn2_239)) hce hcv hcl ?_
      refine lv_astore_n (lv' := [(3, .ref q9), (0, .ref (b + 0)), (1, .int x1), (2, .ref (b + 124))]) hx hb dL_stick_12 rfl hl (by decide) rfl (fun ls hl => ?_)
      refine lv_iconst (v := 1) hx hb dL_stick_13 (by decide) ?_
      exact w_eIL hX hr hlk hH (Or.inr ⟨hok, rfl, wIO, hXE, ⟨rfl, rfl⟩⟩) dL_stick_14
abbrev rm_L_append : Room := { frames := 9, cells := 1, slots := 6, locals := 141 }
abbrev hh_L_append : List (Nat × Nat × Nat × Nat) := [(0, 9, 12, 24), (0, 9, 15, 15)]
theorem hd_L_append : yL_append.cls ≠ "java/lang/invoke/MethodHandle" ∧ yL_append.cls ≠ "java/lang/invoke/VarHandle" ∧ (parseMethodDescriptor yL_append.desc).map (fun d => d.parameters.length) = some 3 := by decide +kernel
def lpost_L_append (x1 : Int32) (I : wI) (G : wG) (r : Int32) (u : wI × wG) : Prop := ((ok_X5_append x1 I) ∧ r = 0 ∧ ∃ v : Int32, (post_X5_append x1 I v u.1) ∧ u.2 = vp_updL G 0 v.toInt64) ∨ (¬ (ok_X5_append x1 I) ∧ u.2 = G ∧ ∃ E : String, (exc_X5_append x1 I E u.1) ∧ ((E = wIA ∧ r = 1) ∨ (E = wIS ∧ r = 2)))
set_option maxRecDepth 100000 in
set_option maxHeartbeats 4000000 in
theorem c_L_append {l : Launch} {D : va_G} {cs : wC4} {ad : Nat → Nat} {b : Nat} {G : wG} (hst : l.stackTraces = false) (x1 : Int32) (I : wI) (hpn : ok_X5_append x1 I → pre_X5_append x1 I) (hpx : ¬ (ok_X5_append x1 I) → pre_X5_appendx x1 I) (hdom : ∀ (E : String) (u : wI), exc_X5_append x1 I E u → E = wIA ∨ E = wIS) : Met l yL_append (wsL_ yL_append cL_append 4 hh_L_append) rm_L_append (va_Pc [.ref (b + 0), .int x1, .ref (b + 124)] (wPrL D cs ad b G I)) (va_Qi (lpost_L_append x1 I G) (fun u t => wPo D cs b u.2 u.1 t) (fun q => b ≤ q)) 1 6 (fun q => b ≤ q) := by
  refine w_metW (by decide) (Nat.le_of_ble_eq_true rfl) ?_
  intro p e s m below meth c hX hr hlk htab hK hE hN hH ls hl
  have hX : CallFix p m c cL_append 4 s _ lw_all RL := hX
  have hx := hX.1
  have hb := hX.2.1
  have hown := hX.2.2.2.1
  have hts := hX.2.2.2.2
  have hl : lv_has ls 4 [(0, .ref (b + 0)), (1, .int x1), (2, .ref (b + 124))] := hl
  refine lv_aload_n hx hb dL_append_0 rfl (lv_at hl 2 rfl) ?_
  refine lv_iconst (v := 0) hx hb dL_append_1 (by decide) ?_
  refine lv_aload_n hx hb dL_append_2 rfl (lv_at hl 0 rfl) ?_
  refine lv_iload_n hx hb dL_append_3 rfl (lv_at hl 1 rfl) ?_
  by_cases hok : ok_X5_append x1 I
  · refine w_cI hH (w_rV (As := [.int x1]) (rest := [.int (0 : Int32), .ref (b + 124)]) hX hK hE hH (c_X5_append _ _ (hpn hok)) ck5 sh0 q3_234 q3_235 q3_236 q1_1 q3_237 hd_X5_append ⟨Nat.le_of_ble_eq_true rfl, Nat.le_of_ble_eq_true rfl⟩ ⟨rfl, rfl⟩ rfl hl.1 rfl (Nat.le_of_ble_eq_true rfl) dL_append_4 ⟨Nat.zero_le _, Nat.zero_le _⟩) (fun r1 I1 H locs hpo hH => ?_)
    refine lv_i2l hx hb dL_append_7 rfl ?_
    refine w_last hX hK hH dL_append_8 (fun H locs hH => ?_)
    refine lv_goto (tgt := 18) hx hb dL_append_9 (by decide) ?_
    refine lv_iconst (v := 0) hx hb dL_append_18 (by decide) ?_
    refine W.widen (k := 1) (n := 6) (Nat.zero_le _) (Nat.zero_le _) ?_
    exact w_eIL hX hr hlk hH (Or.inl ⟨hok, rfl, r1, hpo, rfl⟩) dL_append_19
  · refine w_xcI hH (w_xrV (As := [.int x1]) (rest := [.int (0 : Int32), .ref (b + 124)]) hX hK hE hH (c_X5_appendx hst _ _ (hpx hok)) ck5 sh0 q3_234 q3_235 q3_236 q1_1 q3_237 hd_X5_append ⟨Nat.le_of_ble_eq_true rfl, Nat.le_of_ble_eq_true rfl⟩ ⟨rfl, rfl⟩ rfl hl.1 rfl (Nat.le_of_ble_eq_true rfl) dL_append_4 ⟨Nat.le_of_ble_eq_true rfl, Nat.le_of_ble_eq_true rfl⟩) (fun E u H1 locs1 q9 ce hXE hH hce hcv hcl => ?_)
    rcases hdom E u hXE with rfl | rfl
    · refine vx_catch (name := wIA) hown [] (⟨0, 9, 12, 24⟩ : ExceptionTableEntry) [(⟨0, 9, 15, 15⟩ : ExceptionTableEntry)] (htab.trans rfl) (fun z hz => absurd hz List.not_mem_nil) (by decide) (by decide) (hts _ q3_201) (va_Nw.use rfl (hE.1 _ qn2_156)) hce hcv hcl ?_
      refine lv_astore_n (lv' := [(3, .ref q9), (0, .ref (b + 0)), (1, .int x1), (2, .ref (b + 124))]) hx hb dL_append_12 rfl hl (by decide) rfl (fun ls hl => ?_)
      refine lv_iconst (v := 1) hx hb dL_append_13 (by decide) ?_
      exact w_eIL hX hr hlk hH (Or.inr ⟨hok, rfl, wIA, hXE, Or.inl ⟨rfl, rfl⟩⟩) dL_append_14
    · refine vx_catch (name := wIS) hown [(⟨0, 9, 12, 24⟩ : ExceptionTableEntry)] (⟨0, 9, 15, 15⟩ : ExceptionTableEntry) [] (htab.trans rfl) (fun z hz => by have hz := List.mem_singleton.mp hz; subst hz; exact Or.inr ⟨by decide, wIA, hts _ q3_201, hN.2.1⟩) (by decide) (by decide) (hts _ q3_152) (va_Nw.use rfl (hE.1 _ qn3_163)) hce hcv hcl ?_
      refine lv_astore_n (lv' := [(3, .ref q9), (0, .ref (b + 0)), (1, .int x1), (2, .ref (b + 124))]) hx hb dL_append_15 rfl hl (by decide) rfl (fun ls hl => ?_)
      refine lv_iconst (v := 2) hx hb dL_append_16 (by decide) ?_
      exact w_eIL hX hr hlk hH (Or.inr ⟨hok, rfl, wIS, hXE, Or.inr ⟨rfl, rfl⟩⟩) dL_append_17
abbrev rm_L_goBack : Room := { frames := 9, cells := 1, slots := 6, locals := 140 }
abbrev hh_L_goBack : List (Nat × Nat × Nat × Nat) := [(0, 8, 11, 15)]
theorem hd_L_goBack : yL_goBack.cls ≠ "java/lang/invoke/MethodHandle" ∧ yL_goBack.cls ≠ "java/lang/invoke/VarHandle" ∧ (parseMethodDescriptor yL_goBack.desc).map (fun d => d.parameters.length) = some 2 := by decide +kernel
def lpost_L_goBack  (I : wI) (G : wG) (r : Int32) (u : wI × wG) : Prop := ((ok_X5_goBack  I) ∧ r = 0 ∧ ∃ v : Int32, (post_X5_goBack  I v u.1) ∧ u.2 = vp_updL G 0 v.toInt64) ∨ (¬ (ok_X5_goBack  I) ∧ u.2 = G ∧ ∃ E : String, (exc_X5_goBack  I E u.1) ∧ ((E = wIS ∧ r = 1)))
set_option maxRecDepth 100000 in
set_option maxHeartbeats 4000000 in
theorem c_L_goBack {l : Launch} {D : va_G} {cs : wC4} {ad : Nat → Nat} {b : Nat} {G : wG} (hst : l.stackTraces = false)  (I : wI) (hpn : ok_X5_goBack  I → pre_X5_goBack  I) (hpx : ¬ (ok_X5_goBack  I) → pre_X5_goBackx  I) (hdom : ∀ (E : String) (u : wI), exc_X5_goBack  I E u → E = wIS) : Met l yL_goBack (wsL_ yL_goBack cL_goBack 3 hh_L_goBack) rm_L_goBack (va_Pc [.ref (b + 0), .ref (b + 124)] (wPrL D cs ad b G I)) (va_Qi (lpost_L_goBack  I G) (fun u t => wPo D cs b u.2 u.1 t) (fun q => b ≤ q)) 1 6 (fun q => b ≤ q) := by
  refine w_metW (by decide) (Nat.le_of_ble_eq_true rfl) ?_
  intro p e s m below meth c hX hr hlk htab hK hE hN hH ls hl
  have hX : CallFix p m c cL_goBack 3 s _ lw_all RL := hX
  have hx := hX.1
  have hb := hX.2.1
  have hown := hX.2.2.2.1
  have hts := hX.2.2.2.2
  have hl : lv_has ls 3 [(0, .ref (b + 0)), (1, .ref (b + 124))] := hl
  refine lv_aload_n hx hb dL_goBack_0 rfl (lv_at hl 1 rfl) ?_
  refine lv_iconst (v := 0) hx hb dL_goBack_1 (by decide) ?_
  refine lv_aload_n hx hb dL_goBack_2 rfl (lv_at hl 0 rfl) ?_
  by_cases hok : ok_X5_goBack  I
  · refine w_cI hH (w_rV (As := []) (rest := [.int (0 : Int32), .ref (b + 124)]) hX hK hE hH (c_X5_goBack  _ (hpn hok)) ck5 sh0 q4_7 q4_8 q4_9 q1_1 q4_10 hd_X5_goBack ⟨Nat.le_of_ble_eq_true rfl, Nat.le_of_ble_eq_true rfl⟩ ⟨rfl, rfl⟩ rfl hl.1 rfl (Nat.le_of_ble_eq_true rfl) dL_goBack_3 ⟨Nat.zero_le _, Nat.zero_le _⟩) (fun r1 I1 H locs hpo hH => ?_)
    refine lv_i2l hx hb dL_goBack_6 rfl ?_
    refine w_last hX hK hH dL_goBack_7 (fun H locs hH => ?_)
    refine lv_goto (tgt := 14) hx hb dL_goBack_8 (by decide) ?_
    refine lv_iconst (v := 0) hx hb dL_goBack_14 (by decide) ?_
    refine W.widen (k := 1) (n := 6) (Nat.zero_le _) (Nat.zero_le _) ?_
    exact w_eIL hX hr hlk hH (Or.inl ⟨hok, rfl, r1, hpo, rfl⟩) dL_goBack_15
  · refine w_xcI hH (w_xrV (As := []) (rest := [.int (0 : Int32), .ref (b + 124)]) hX hK hE hH (c_X5_goBackx hst  _ (hpx hok)) ck5 sh0 q4_7 q4_8 q4_9 q1_1 q4_10 hd_X5_goBack ⟨Nat.le_of_ble_eq_true rfl, Nat.le_of_ble_eq_true rfl⟩ ⟨rfl, rfl⟩ rfl hl.1 rfl (Nat.le_of_ble_eq_true rfl) dL_goBack_3 ⟨Nat.le_of_ble_eq_true rfl, Nat.le_of_ble_eq_true rfl⟩) (fun E u H1 locs1 q9 ce hXE hH hce hcv hcl => ?_)
    rcases hdom E u hXE with rfl
    · refine vx_catch (name := wIS) hown [] (⟨0, 8, 11, 15⟩ : ExceptionTableEntry) [] (htab.trans rfl) (fun z hz => absurd hz List.not_mem_nil) (by decide) (by decide) (hts _ q3_152) (va_Nw.use rfl (hE.1 _ qn3_163)) hce hcv hcl ?_
      refine lv_astore_n (lv' := [(2, .ref q9), (0, .ref (b + 0)), (1, .ref (b + 124))]) hx hb dL_goBack_11 rfl hl (by decide) rfl (fun ls hl => ?_)
      refine lv_iconst (v := 1) hx hb dL_goBack_12 (by decide) ?_
      exact w_eIL hX hr hlk hH (Or.inr ⟨hok, rfl, wIS, hXE, ⟨rfl, rfl⟩⟩) dL_goBack_13
abbrev rm_L_undo : Room := { frames := 9, cells := 1, slots := 6, locals := 141 }
abbrev hh_L_undo : List (Nat × Nat × Nat × Nat) := [(0, 8, 11, 15)]
theorem hd_L_undo : yL_undo.cls ≠ "java/lang/invoke/MethodHandle" ∧ yL_undo.cls ≠ "java/lang/invoke/VarHandle" ∧ (parseMethodDescriptor yL_undo.desc).map (fun d => d.parameters.length) = some 2 := by decide +kernel
def lpost_L_undo  (I : wI) (G : wG) (r : Int32) (u : wI × wG) : Prop := ((ok_X5_undo  I) ∧ r = 0 ∧ ∃ v : Int32, (post_X5_undo  I v u.1) ∧ u.2 = vp_updL G 0 v.toInt64) ∨ (¬ (ok_X5_undo  I) ∧ u.2 = G ∧ ∃ E : String, (exc_X5_undo  I E u.1) ∧ ((E = wIS ∧ r = 1)))
set_option maxRecDepth 100000 in
set_option maxHeartbeats 4000000 in
theorem c_L_undo {l : Launch} {D : va_G} {cs : wC4} {ad : Nat → Nat} {b : Nat} {G : wG} (hst : l.stackTraces = false)  (I : wI) (hpn : ok_X5_undo  I → pre_X5_undo  I) (hpx : ¬ (ok_X5_undo  I) → pre_X5_undox  I) (hdom : ∀ (E : String) (u : wI), exc_X5_undo  I E u → E = wIS) : Met l yL_undo (wsL_ yL_undo cL_undo 3 hh_L_undo) rm_L_undo (va_Pc [.ref (b + 0), .ref (b + 124)] (wPrL D cs ad b G I)) (va_Qi (lpost_L_undo  I G) (fun u t => wPo D cs b u.2 u.1 t) (fun q => b ≤ q)) 1 6 (fun q => b ≤ q) := by
  refine w_metW (by decide) (Nat.le_of_ble_eq_true rfl) ?_
  intro p e s m below meth c hX hr hlk htab hK hE hN hH ls hl
  have hX : CallFix p m c cL_undo 3 s _ lw_all RL := hX
  have hx := hX.1
  have hb := hX.2.1
  have hown := hX.2.2.2.1
  have hts := hX.2.2.2.2
  have hl : lv_has ls 3 [(0, .ref (b + 0)), (1, .ref (b + 124))] := hl
  refine lv_aload_n hx hb dL_undo_0 rfl (lv_at hl 1 rfl) ?_
  refine lv_iconst (v := 0) hx hb dL_undo_1 (by decide) ?_
  refine lv_aload_n hx hb dL_undo_2 rfl (lv_at hl 0 rfl) ?_
  by_cases hok : ok_X5_undo  I
  · refine w_cI hH (w_rV (As := []) (rest := [.int (0 : Int32), .ref (b + 124)]) hX hK hE hH (c_X5_undo  _ (hpn hok)) ck5 sh0 q4_15 q4_16 q4_17 q1_1 q4_18 hd_X5_undo ⟨Nat.le_of_ble_eq_true rfl, Nat.le_of_ble_eq_true rfl⟩ ⟨rfl, rfl⟩ rfl hl.1 rfl (Nat.le_of_ble_eq_true rfl) dL_undo_3 ⟨Nat.zero_le _, Nat.zero_le _⟩) (fun r1 I1 H locs hpo hH => ?_)
    refine lv_i2l hx hb dL_undo_6 rfl ?_
    refine w_last hX hK hH dL_undo_7 (fun H locs hH => ?_)
    refine lv_goto (tgt := 14) hx hb dL_undo_8 (by decide) ?_
    refine lv_iconst (v := 0) hx hb dL_undo_14 (by decide) ?_
    refine W.widen (k := 1) (n := 6) (Nat.zero_le _) (Nat.zero_le _) ?_
    exact w_eIL hX hr hlk hH (Or.inl ⟨hok, rfl, r1, hpo, rfl⟩) dL_undo_15
  · refine w_xcI hH (w_xrV (As := []) (rest := [.int (0 : Int32), .ref (b + 124)]) hX hK hE hH (c_X5_undox hst  _ (hpx hok)) ck5 sh0 q4_15 q4_16 q4_17 q1_1 q4_18 hd_X5_undo ⟨Nat.le_of_ble_eq_true rfl, Nat.le_of_ble_eq_true rfl⟩ ⟨rfl, rfl⟩ rfl hl.1 rfl (Nat.le_of_ble_eq_true rfl) dL_undo_3 ⟨Nat.le_of_ble_eq_true rfl, Nat.le_of_ble_eq_true rfl⟩) (fun E u H1 locs1 q9 ce hXE hH hce hcv hcl => ?_)
    rcases hdom E u hXE with rfl
    · refine vx_catch (name := wIS) hown [] (⟨0, 8, 11, 15⟩ : ExceptionTableEntry) [] (htab.trans rfl) (fun z hz => absurd hz List.not_mem_nil) (by decide) (by decide) (hts _ q3_152) (va_Nw.use rfl (hE.1 _ qn3_163)) hce hcv hcl ?_
      refine lv_astore_n (lv' := [(2, .ref q9), (0, .ref (b + 0)), (1, .ref (b + 124))]) hx hb dL_undo_11 rfl hl (by decide) rfl (fun ls hl => ?_)
      refine lv_iconst (v := 1) hx hb dL_undo_12 (by decide) ?_
      exact w_eIL hX hr hlk hH (Or.inr ⟨hok, rfl, wIS, hXE, ⟨rfl, rfl⟩⟩) dL_undo_13
abbrev rm_L_at : Room := { frames := 10, cells := 1, slots := 6, locals := 162 }
abbrev hh_L_at : List (Nat × Nat × Nat × Nat) := [(0, 10, 13, 13), (0, 10, 17, 24)]
theorem hd_L_at : yL_at.cls ≠ "java/lang/invoke/MethodHandle" ∧ yL_at.cls ≠ "java/lang/invoke/VarHandle" ∧ (parseMethodDescriptor yL_at.desc).map (fun d => d.parameters.length) = some 4 := by decide +kernel
def lpost_L_at (x1 : Int32) (x2 : Int32) (I : wI) (G : wG) (r : Int32) (u : wI × wG) : Prop := ((ok_X5_at x1 x2 I) ∧ r = 0 ∧ ∃ v : Int32, (post_X5_at x1 x2 I v ∧ u.1 = I) ∧ u.2 = vp_updL G 0 v.toInt64) ∨ (¬ (ok_X5_at x1 x2 I) ∧ u.2 = G ∧ ∃ E : String, (exc_X5_at x1 x2 I E ∧ u.1 = I) ∧ ((E = wIO ∧ r = 1) ∨ (E = wIA ∧ r = 2)))
set_option maxRecDepth 100000 in
set_option maxHeartbeats 4000000 in
theorem c_L_at {l : Launch} {D : va_G} {cs : wC4} {ad : Nat → Nat} {b : Nat} {G : wG} (hst : l.stackTraces = false) (x1 : Int32) (x2 : Int32) (I : wI) (hpn : ok_X5_at x1 x2 I → pre_X5_at x1 x2 I) (hpx : ¬ (ok_X5_at x1 x2 I) → pre_X5_atx x1 x2 I) (hdom : ∀ (E : String), exc_X5_at x1 x2 I E → E = wIO ∨ E = wIA) : Met l yL_at (wsL_ yL_at cL_at 5 hh_L_at) rm_L_at (va_Pc [.ref (b + 0), .int x1, .int x2, .ref (b + 124)] (wPrL D cs ad b G I)) (va_Qi (lpost_L_at x1 x2 I G) (fun u t => wPo D cs b u.2 u.1 t) (fun q => b ≤ q)) 1 6 (fun q => b ≤ q) := by
  refine w_metW (by decide) (Nat.le_of_ble_eq_true rfl) ?_
  intro p e s m below meth c hX hr hlk htab hK hE hN hH ls hl
  have hX : CallFix p m c cL_at 5 s _ lw_all RL := hX
  have hx := hX.1
  have hb := hX.2.1
  have hown := hX.2.2.2.1
  have hts := hX.2.2.2.2
  have hl : lv_has ls 5 [(0, .ref (b + 0)), (1, .int x1), (2, .int x2), (3, .ref (b + 124))] := hl
  refine lv_aload_n hx hb dL_at_0 rfl (lv_at hl 3 rfl) ?_
  refine lv_iconst (v := 0) hx hb dL_at_1 (by decide) ?_
  refine lv_aload_n hx hb dL_at_2 rfl (lv_at hl 0 rfl) ?_
  refine lv_iload_n hx hb dL_at_3 rfl (lv_at hl 1 rfl) ?_
  refine lv_iload_n hx hb dL_at_4 rfl (lv_at hl 2 rfl) ?_
  by_cases hok : ok_X5_at x1 x2 I
  · refine w_cIp hH (w_rV (As := [.int x1, .int x2]) (rest := [.int (0 : Int32), .ref (b + 124)]) hX hK hE hH (c_X5_at _ _ _ (hpn hok)) ck5 sh0 q4_23 q2_231 q2_232 q1_1 q2_233 hd_X5_at ⟨Nat.le_of_ble_eq_true rfl, Nat.le_of_ble_eq_true rfl⟩ ⟨rfl, rfl⟩ rfl hl.1 rfl (Nat.le_of_ble_eq_true rfl) dL_at_5 ⟨Nat.zero_le _, Nat.zero_le _⟩) (fun r1 H locs hpo hH => ?_)
    refine lv_i2l hx hb dL_at_8 rfl ?_
    refine w_last hX hK hH dL_at_9 (fun H locs hH => ?_)
    refine lv_goto (tgt := 21) hx hb dL_at_10 (by decide) ?_
    refine lv_iconst (v := 0) hx hb dL_at_21 (by decide) ?_
    refine W.widen (k := 1) (n := 6) (Nat.zero_le _) (Nat.zero_le _) ?_
    exact w_eIL hX hr hlk hH (Or.inl ⟨hok, rfl, r1, ⟨hpo, rfl⟩, rfl⟩) dL_at_22
  · refine w_xcI hH (w_xrV (As := [.int x1, .int x2]) (rest := [.int (0 : Int32), .ref (b + 124)]) hX hK hE hH (c_X5_atx hst _ _ _ (hpx hok)) ck5 sh0 q4_23 q2_231 q2_232 q1_1 q2_233 hd_X5_at ⟨Nat.le_of_ble_eq_true rfl, Nat.le_of_ble_eq_true rfl⟩ ⟨rfl, rfl⟩ rfl hl.1 rfl (Nat.le_of_ble_eq_true rfl) dL_at_5 ⟨Nat.le_of_ble_eq_true rfl, Nat.le_of_ble_eq_true rfl⟩) (fun E u H1 locs1 q9 ce hXE hH hce hcv hcl => ?_)
    have hu := hXE.1
    have hXE := hXE.2
    rw [hu] at hH
    rcases hdom E hXE with rfl | rfl
    · refine vx_catch (name := wIO) hown [] (⟨0, 10, 13, 13⟩ : ExceptionTableEntry) [(⟨0, 10, 17, 24⟩ : ExceptionTableEntry)] (htab.trans rfl) (fun z hz => absurd hz List.not_mem_nil) (by decide) (by decide) (hts _ q3_151) (va_Nw.use rfl (hE.1 _ qn2_239)) hce hcv hcl ?_
      refine lv_astore (lv' := [(4, .ref q9), (0, .ref (b + 0)), (1, .int x1), (2, .int x2), (3, .ref (b + 124))]) hx hb dL_at_13 hl (by decide) rfl (fun ls hl => ?_)
      refine lv_iconst (v := 1) hx hb dL_at_15 (by decide) ?_
      exact w_eIL hX hr hlk hH (Or.inr ⟨hok, rfl, wIO, ⟨hXE, rfl⟩, Or.inl ⟨rfl, rfl⟩⟩) dL_at_16
    · refine vx_catch (name := wIA) hown [(⟨0, 10, 13, 13⟩ : ExceptionTableEntry)] (⟨0, 10, 17, 24⟩ : ExceptionTableEntry) [] (htab.trans rfl) (fun z hz => by have hz := List.mem_singleton.mp hz; subst hz; exact Or.inr ⟨by decide, wIO, hts _ q3_151, hN.2.2⟩) (by decide) (by decide) (hts _ q3_201) (va_Nw.use rfl (hE.1 _ qn2_156)) hce hcv hcl ?_
      refine lv_astore (lv' := [(4, .ref q9), (0, .ref (b + 0)), (1, .int x1), (2, .int x2), (3, .ref (b + 124))]) hx hb dL_at_17 hl (by decide) rfl (fun ls hl => ?_)
      refine lv_iconst (v := 2) hx hb dL_at_19 (by decide) ?_
      exact w_eIL hX hr hlk hH (Or.inr ⟨hok, rfl, wIA, ⟨hXE, rfl⟩, Or.inr ⟨rfl, rfl⟩⟩) dL_at_20
abbrev rm_L_key : Room := { frames := 10, cells := 1, slots := 6, locals := 162 }
abbrev hh_L_key : List (Nat × Nat × Nat × Nat) := [(0, 10, 13, 13), (0, 10, 17, 24)]
theorem hd_L_key : yL_key.cls ≠ "java/lang/invoke/MethodHandle" ∧ yL_key.cls ≠ "java/lang/invoke/VarHandle" ∧ (parseMethodDescriptor yL_key.desc).map (fun d => d.parameters.length) = some 4 := by decide +kernel
def lpost_L_key (x1 : Int32) (x2 : Int32) (I : wI) (G : wG) (r : Int32) (u : wI × wG) : Prop := ((ok_X5_key x1 x2 I) ∧ r = 0 ∧ ∃ v : Int32, (post_X5_key x1 x2 I v u.1) ∧ u.2 = vp_updL G 0 v.toInt64) ∨ (¬ (ok_X5_key x1 x2 I) ∧ u.2 = G ∧ ∃ E : String, (exc_X5_key x1 x2 I E u.1) ∧ ((E = wIO ∧ r = 1) ∨ (E = wIA ∧ r = 2)))
set_option maxRecDepth 100000 in
set_option maxHeartbeats 4000000 in
theorem c_L_key {l : Launch} {D : va_G} {cs : wC4} {ad : Nat → Nat} {b : Nat} {G : wG} (hst : l.stackTraces = false) (x1 : Int32) (x2 : Int32) (I : wI) (hpn : ok_X5_key x1 x2 I → pre_X5_key x1 x2 I) (hpx : ¬ (ok_X5_key x1 x2 I) → pre_X5_keyx x1 x2 I) (hdom : ∀ (E : String) (u : wI), exc_X5_key x1 x2 I E u → E = wIO ∨ E = wIA) : Met l yL_key (wsL_ yL_key cL_key 5 hh_L_key) rm_L_key (va_Pc [.ref (b + 0), .int x1, .int x2, .ref (b + 124)] (wPrL D cs ad b G I)) (va_Qi (lpost_L_key x1 x2 I G) (fun u t => wPo D cs b u.2 u.1 t) (fun q => b ≤ q)) 1 6 (fun q => b ≤ q) := by
  refine w_metW (by decide) (Nat.le_of_ble_eq_true rfl) ?_
  intro p e s m below meth c hX hr hlk htab hK hE hN hH ls hl
  have hX : CallFix p m c cL_key 5 s _ lw_all RL := hX
  have hx := hX.1
  have hb := hX.2.1
  have hown := hX.2.2.2.1
  have hts := hX.2.2.2.2
  have hl : lv_has ls 5 [(0, .ref (b + 0)), (1, .int x1), (2, .int x2), (3, .ref (b + 124))] := hl
  refine lv_aload_n hx hb dL_key_0 rfl (lv_at hl 3 rfl) ?_
  refine lv_iconst (v := 0) hx hb dL_key_1 (by decide) ?_
  refine lv_aload_n hx hb dL_key_2 rfl (lv_at hl 0 rfl) ?_
  refine lv_iload_n hx hb dL_key_3 rfl (lv_at hl 1 rfl) ?_
  refine lv_iload_n hx hb dL_key_4 rfl (lv_at hl 2 rfl) ?_
  by_cases hok : ok_X5_key x1 x2 I
  · refine w_cI hH (w_rV (As := [.int x1, .int x2]) (rest := [.int (0 : Int32), .ref (b + 124)]) hX hK hE hH (c_X5_key _ _ _ (hpn hok)) ck5 sh0 q4_27 q3_37 q3_38 q1_1 q3_39 hd_X5_key ⟨Nat.le_of_ble_eq_true rfl, Nat.le_of_ble_eq_true rfl⟩ ⟨rfl, rfl⟩ rfl hl.1 rfl (Nat.le_of_ble_eq_true rfl) dL_key_5 ⟨Nat.zero_le _, Nat.zero_le _⟩) (fun r1 I1 H locs hpo hH => ?_)
    refine lv_i2l hx hb dL_key_8 rfl ?_
    refine w_last hX hK hH dL_key_9 (fun H locs hH => ?_)
    refine lv_goto (tgt := 21) hx hb dL_key_10 (by decide) ?_
    refine lv_iconst (v := 0) hx hb dL_key_21 (by decide) ?_
    refine W.widen (k := 1) (n := 6) (Nat.zero_le _) (Nat.zero_le _) ?_
    exact w_eIL hX hr hlk hH (Or.inl ⟨hok, rfl, r1, hpo, rfl⟩) dL_key_22
  · refine w_xcI hH (w_xrV (As := [.int x1, .int x2]) (rest := [.int (0 : Int32), .ref (b + 124)]) hX hK hE hH (c_X5_keyx hst _ _ _ (hpx hok)) ck5 sh0 q4_27 q3_37 q3_38 q1_1 q3_39 hd_X5_key ⟨Nat.le_of_ble_eq_true rfl, Nat.le_of_ble_eq_true rfl⟩ ⟨rfl, rfl⟩ rfl hl.1 rfl (Nat.le_of_ble_eq_true rfl) dL_key_5 ⟨Nat.le_of_ble_eq_true rfl, Nat.le_of_ble_eq_true rfl⟩) (fun E u H1 locs1 q9 ce hXE hH hce hcv hcl => ?_)
    rcases hdom E u hXE with rfl | rfl
    · refine vx_catch (name := wIO) hown [] (⟨0, 10, 13, 13⟩ : ExceptionTableEntry) [(⟨0, 10, 17, 24⟩ : ExceptionTableEntry)] (htab.trans rfl) (fun z hz => absurd hz List.not_mem_nil) (by decide) (by decide) (hts _ q3_151) (va_Nw.use rfl (hE.1 _ qn2_239)) hce hcv hcl ?_
      refine lv_astore (lv' := [(4, .ref q9), (0, .ref (b + 0)), (1, .int x1), (2, .int x2), (3, .ref (b + 124))]) hx hb dL_key_13 hl (by decide) rfl (fun ls hl => ?_)
      refine lv_iconst (v := 1) hx hb dL_key_15 (by decide) ?_
      exact w_eIL hX hr hlk hH (Or.inr ⟨hok, rfl, wIO, hXE, Or.inl ⟨rfl, rfl⟩⟩) dL_key_16
    · refine vx_catch (name := wIA) hown [(⟨0, 10, 13, 13⟩ : ExceptionTableEntry)] (⟨0, 10, 17, 24⟩ : ExceptionTableEntry) [] (htab.trans rfl) (fun z hz => by have hz := List.mem_singleton.mp hz; subst hz; exact Or.inr ⟨by decide, wIO, hts _ q3_151, hN.2.2⟩) (by decide) (by decide) (hts _ q3_201) (va_Nw.use rfl (hE.1 _ qn2_156)) hce hcv hcl ?_
      refine lv_astore (lv' := [(4, .ref q9), (0, .ref (b + 0)), (1, .int x1), (2, .int x2), (3, .ref (b + 124))]) hx hb dL_key_17 hl (by decide) rfl (fun ls hl => ?_)
      refine lv_iconst (v := 2) hx hb dL_key_19 (by decide) ?_
      exact w_eIL hX hr hlk hH (Or.inr ⟨hok, rfl, wIA, hXE, Or.inr ⟨rfl, rfl⟩⟩) dL_key_20
abbrev rm_L_pair : Room := { frames := 10, cells := 1, slots := 6, locals := 163 }
abbrev hh_L_pair : List (Nat × Nat × Nat × Nat) := [(0, 12, 15, 13), (0, 12, 19, 24)]
theorem hd_L_pair : yL_pair.cls ≠ "java/lang/invoke/MethodHandle" ∧ yL_pair.cls ≠ "java/lang/invoke/VarHandle" ∧ (parseMethodDescriptor yL_pair.desc).map (fun d => d.parameters.length) = some 5 := by decide +kernel
def lpost_L_pair (x1 : Int32) (x2 : Int32) (x3 : Int32) (I : wI) (G : wG) (r : Int32) (u : wI × wG) : Prop := ((ok_X5_pair x1 x2 x3 I) ∧ r = 0 ∧ ∃ v : Int32, (post_X5_pair x1 x2 x3 I v u.1) ∧ u.2 = vp_updL G 0 v.toInt64) ∨ (¬ (ok_X5_pair x1 x2 x3 I) ∧ u.2 = G ∧ ∃ E : String, (exc_X5_pair x1 x2 x3 I E u.1) ∧ ((E = wIO ∧ r = 1) ∨ (E = wIA ∧ r = 2)))
set_option maxRecDepth 100000 in
set_option maxHeartbeats 4000000 in
theorem c_L_pair {l : Launch} {D : va_G} {cs : wC4} {ad : Nat → Nat} {b : Nat} {G : wG} (hst : l.stackTraces = false) (x1 : Int32) (x2 : Int32) (x3 : Int32) (I : wI) (hpn : ok_X5_pair x1 x2 x3 I → pre_X5_pair x1 x2 x3 I) (hpx : ¬ (ok_X5_pair x1 x2 x3 I) → pre_X5_pairx x1 x2 x3 I) (hdom : ∀ (E : String) (u : wI), exc_X5_pair x1 x2 x3 I E u → E = wIO ∨ E = wIA) : Met l yL_pair (wsL_ yL_pair cL_pair 6 hh_L_pair) rm_L_pair (va_Pc [.ref (b + 0), .int x1, .int x2, .int x3, .ref (b + 124)] (wPrL D cs ad b G I)) (va_Qi (lpost_L_pair x1 x2 x3 I G) (fun u t => wPo D cs b u.2 u.1 t) (fun q => b ≤ q)) 1 6 (fun q => b ≤ q) := by
  refine w_metW (by decide) (Nat.le_of_ble_eq_true rfl) ?_
  intro p e s m below meth c hX hr hlk htab hK hE hN hH ls hl
  have hX : CallFix p m c cL_pair 6 s _ lw_all RL := hX
  have hx := hX.1
  have hb := hX.2.1
  have hown := hX.2.2.2.1
  have hts := hX.2.2.2.2
  have hl : lv_has ls 6 [(0, .ref (b + 0)), (1, .int x1), (2, .int x2), (3, .int x3), (4, .ref (b + 124))] := hl
  refine lv_aload hx hb dL_pair_0 (lv_at hl 4 rfl) ?_
  refine lv_iconst (v := 0) hx hb dL_pair_2 (by decide) ?_
  refine lv_aload_n hx hb dL_pair_3 rfl (lv_at hl 0 rfl) ?_
  refine lv_iload_n hx hb dL_pair_4 rfl (lv_at hl 1 rfl) ?_
  refine lv_iload_n hx hb dL_pair_5 rfl (lv_at hl 2 rfl) ?_
  refine lv_iload_n hx hb dL_pair_6 rfl (lv_at hl 3 rfl) ?_
  by_cases hok : ok_X5_pair x1 x2 x3 I
  · refine w_cI hH (w_rV (As := [.int x1, .int x2, .int x3]) (rest := [.int (0 : Int32), .ref (b + 124)]) hX hK hE hH (c_X5_pair _ _ _ _ (hpn hok)) ck5 sh0 q4_31 q3_86 q3_87 q1_1 q3_88 hd_X5_pair ⟨Nat.le_of_ble_eq_true rfl, Nat.le_of_ble_eq_true rfl⟩ ⟨rfl, rfl⟩ rfl hl.1 rfl (Nat.le_of_ble_eq_true rfl) dL_pair_7 ⟨Nat.zero_le _, Nat.zero_le _⟩) (fun r1 I1 H locs hpo hH => ?_)
    refine lv_i2l hx hb dL_pair_10 rfl ?_
    refine w_last hX hK hH dL_pair_11 (fun H locs hH => ?_)
    refine lv_goto (tgt := 23) hx hb dL_pair_12 (by decide) ?_
    refine lv_iconst (v := 0) hx hb dL_pair_23 (by decide) ?_
    refine W.widen (k := 1) (n := 6) (Nat.zero_le _) (Nat.zero_le _) ?_
    exact w_eIL hX hr hlk hH (Or.inl ⟨hok, rfl, r1, hpo, rfl⟩) dL_pair_24
  · refine w_xcI hH (w_xrV (As := [.int x1, .int x2, .int x3]) (rest := [.int (0 : Int32), .ref (b + 124)]) hX hK hE hH (c_X5_pairx hst _ _ _ _ (hpx hok)) ck5 sh0 q4_31 q3_86 q3_87 q1_1 q3_88 hd_X5_pair ⟨Nat.le_of_ble_eq_true rfl, Nat.le_of_ble_eq_true rfl⟩ ⟨rfl, rfl⟩ rfl hl.1 rfl (Nat.le_of_ble_eq_true rfl) dL_pair_7 ⟨Nat.le_of_ble_eq_true rfl, Nat.le_of_ble_eq_true rfl⟩) (fun E u H1 locs1 q9 ce hXE hH hce hcv hcl => ?_)
    rcases hdom E u hXE with rfl | rfl
    · refine vx_catch (name := wIO) hown [] (⟨0, 12, 15, 13⟩ : ExceptionTableEntry) [(⟨0, 12, 19, 24⟩ : ExceptionTableEntry)] (htab.trans rfl) (fun z hz => absurd hz List.not_mem_nil) (by decide) (by decide) (hts _ q3_151) (va_Nw.use rfl (hE.1 _ qn2_239)) hce hcv hcl ?_
      refine lv_astore (lv' := [(5, .ref q9), (0, .ref (b + 0)), (1, .int x1), (2, .int x2), (3, .int x3), (4, .ref (b + 124))]) hx hb dL_pair_15 hl (by decide) rfl (fun ls hl => ?_)
      refine lv_iconst (v := 1) hx hb dL_pair_17 (by decide) ?_
      exact w_eIL hX hr hlk hH (Or.inr ⟨hok, rfl, wIO, hXE, Or.inl ⟨rfl, rfl⟩⟩) dL_pair_18
    · refine vx_catch (name := wIA) hown [(⟨0, 12, 15, 13⟩ : ExceptionTableEntry)] (⟨0, 12, 19, 24⟩ : ExceptionTableEntry) [] (htab.trans rfl) (fun z hz => by have hz := List.mem_singleton.mp hz; subst hz; exact Or.inr ⟨by decide, wIO, hts _ q3_151, hN.2.2⟩) (by decide) (by decide) (hts _ q3_201) (va_Nw.use rfl (hE.1 _ qn2_156)) hce hcv hcl ?_
      refine lv_astore (lv' := [(5, .ref q9), (0, .ref (b + 0)), (1, .int x1), (2, .int x2), (3, .int x3), (4, .ref (b + 124))]) hx hb dL_pair_19 hl (by decide) rfl (fun ls hl => ?_)
      refine lv_iconst (v := 2) hx hb dL_pair_21 (by decide) ?_
      exact w_eIL hX hr hlk hH (Or.inr ⟨hok, rfl, wIA, hXE, Or.inr ⟨rfl, rfl⟩⟩) dL_pair_22
abbrev rm_L_ofWord : Room := { frames := 9, cells := 1, slots := 6, locals := 151 }
abbrev hh_L_ofWord : List (Nat × Nat × Nat × Nat) := [(0, 9, 12, 24)]
theorem hd_L_ofWord : yL_ofWord.cls ≠ "java/lang/invoke/MethodHandle" ∧ yL_ofWord.cls ≠ "java/lang/invoke/VarHandle" ∧ (parseMethodDescriptor yL_ofWord.desc).map (fun d => d.parameters.length) = some 3 := by decide +kernel
def lpost_L_ofWord (x1 : Int32) (I : wI) (G : wG) (r : Int32) (u : wI × wG) : Prop := ((ok_X5_ofWord x1 I) ∧ r = 0 ∧ ∃ v : Int32, (post_X5_ofWord x1 I v u.1) ∧ u.2 = vp_updL G 0 v.toInt64) ∨ (¬ (ok_X5_ofWord x1 I) ∧ u.2 = G ∧ ∃ E : String, (exc_X5_ofWord x1 I E u.1) ∧ ((E = wIA ∧ r = 1)))
set_option maxRecDepth 100000 in
set_option maxHeartbeats 4000000 in
theorem c_L_ofWord {l : Launch} {D : va_G} {cs : wC4} {ad : Nat → Nat} {b : Nat} {G : wG} (hst : l.stackTraces = false) (x1 : Int32) (I : wI) (hpn : ok_X5_ofWord x1 I → pre_X5_ofWord x1 I) (hpx : ¬ (ok_X5_ofWord x1 I) → pre_X5_ofWordx x1 I) (hdom : ∀ (E : String) (u : wI), exc_X5_ofWord x1 I E u → E = wIA) : Met l yL_ofWord (wsL_ yL_ofWord cL_ofWord 4 hh_L_ofWord) rm_L_ofWord (va_Pc [.ref (b + 0), .int x1, .ref (b + 124)] (wPrL D cs ad b G I)) (va_Qi (lpost_L_ofWord x1 I G) (fun u t => wPo D cs b u.2 u.1 t) (fun q => b ≤ q)) 1 6 (fun q => b ≤ q) := by
  refine w_metW (by decide) (Nat.le_of_ble_eq_true rfl) ?_
  intro p e s m below meth c hX hr hlk htab hK hE hN hH ls hl
  have hX : CallFix p m c cL_ofWord 4 s _ lw_all RL := hX
  have hx := hX.1
  have hb := hX.2.1
  have hown := hX.2.2.2.1
  have hts := hX.2.2.2.2
  have hl : lv_has ls 4 [(0, .ref (b + 0)), (1, .int x1), (2, .ref (b + 124))] := hl
  refine lv_aload_n hx hb dL_ofWord_0 rfl (lv_at hl 2 rfl) ?_
  refine lv_iconst (v := 0) hx hb dL_ofWord_1 (by decide) ?_
  refine lv_aload_n hx hb dL_ofWord_2 rfl (lv_at hl 0 rfl) ?_
  refine lv_iload_n hx hb dL_ofWord_3 rfl (lv_at hl 1 rfl) ?_
  by_cases hok : ok_X5_ofWord x1 I
  · refine w_cI hH (w_rV (As := [.int x1]) (rest := [.int (0 : Int32), .ref (b + 124)]) hX hK hE hH (c_X5_ofWord _ _ (hpn hok)) ck5 sh0 q4_35 q4_36 q4_37 q1_1 q4_38 hd_X5_ofWord ⟨Nat.le_of_ble_eq_true rfl, Nat.le_of_ble_eq_true rfl⟩ ⟨rfl, rfl⟩ rfl hl.1 rfl (Nat.le_of_ble_eq_true rfl) dL_ofWord_4 ⟨Nat.zero_le _, Nat.zero_le _⟩) (fun r1 I1 H locs hpo hH => ?_)
    refine lv_i2l hx hb dL_ofWord_7 rfl ?_
    refine w_last hX hK hH dL_ofWord_8 (fun H locs hH => ?_)
    refine lv_goto (tgt := 15) hx hb dL_ofWord_9 (by decide) ?_
    refine lv_iconst (v := 0) hx hb dL_ofWord_15 (by decide) ?_
    refine W.widen (k := 1) (n := 6) (Nat.zero_le _) (Nat.zero_le _) ?_
    exact w_eIL hX hr hlk hH (Or.inl ⟨hok, rfl, r1, hpo, rfl⟩) dL_ofWord_16
  · refine w_xcI hH (w_xrV (As := [.int x1]) (rest := [.int (0 : Int32), .ref (b + 124)]) hX hK hE hH (c_X5_ofWordx hst _ _ (hpx hok)) ck5 sh0 q4_35 q4_36 q4_37 q1_1 q4_38 hd_X5_ofWord ⟨Nat.le_of_ble_eq_true rfl, Nat.le_of_ble_eq_true rfl⟩ ⟨rfl, rfl⟩ rfl hl.1 rfl (Nat.le_of_ble_eq_true rfl) dL_ofWord_4 ⟨Nat.le_of_ble_eq_true rfl, Nat.le_of_ble_eq_true rfl⟩) (fun E u H1 locs1 q9 ce hXE hH hce hcv hcl => ?_)
    rcases hdom E u hXE with rfl
    · refine vx_catch (name := wIA) hown [] (⟨0, 9, 12, 24⟩ : ExceptionTableEntry) [] (htab.trans rfl) (fun z hz => absurd hz List.not_mem_nil) (by decide) (by decide) (hts _ q3_201) (va_Nw.use rfl (hE.1 _ qn2_156)) hce hcv hcl ?_
      refine lv_astore_n (lv' := [(3, .ref q9), (0, .ref (b + 0)), (1, .int x1), (2, .ref (b + 124))]) hx hb dL_ofWord_12 rfl hl (by decide) rfl (fun ls hl => ?_)
      refine lv_iconst (v := 1) hx hb dL_ofWord_13 (by decide) ?_
      exact w_eIL hX hr hlk hH (Or.inr ⟨hok, rfl, wIA, hXE, ⟨rfl, rfl⟩⟩) dL_ofWord_14
abbrev rm_L_count : Room := { frames := 9, cells := 1, slots := 6, locals := 141 }
abbrev hh_L_count : List (Nat × Nat × Nat × Nat) := [(0, 9, 12, 24)]
theorem hd_L_count : yL_count.cls ≠ "java/lang/invoke/MethodHandle" ∧ yL_count.cls ≠ "java/lang/invoke/VarHandle" ∧ (parseMethodDescriptor yL_count.desc).map (fun d => d.parameters.length) = some 3 := by decide +kernel
def lpost_L_count (x1 : Int32) (I : wI) (G : wG) (r : Int32) (u : wI × wG) : Prop := ((ok_X5_count x1 I) ∧ r = 0 ∧ ∃ v : Int32, (post_X5_count x1 I v ∧ u.1 = I) ∧ u.2 = vp_updL G 0 v.toInt64) ∨ (¬ (ok_X5_count x1 I) ∧ u.2 = G ∧ ∃ E : String, (exc_X5_count x1 I E ∧ u.1 = I) ∧ ((E = wIA ∧ r = 1)))
set_option maxRecDepth 100000 in
set_option maxHeartbeats 4000000 in
theorem c_L_count {l : Launch} {D : va_G} {cs : wC4} {ad : Nat → Nat} {b : Nat} {G : wG} (hst : l.stackTraces = false) (x1 : Int32) (I : wI) (hpn : ok_X5_count x1 I → pre_X5_count x1 I) (hpx : ¬ (ok_X5_count x1 I) → pre_X5_countx x1 I) (hdom : ∀ (E : String), exc_X5_count x1 I E → E = wIA) : Met l yL_count (wsL_ yL_count cL_count 4 hh_L_count) rm_L_count (va_Pc [.ref (b + 0), .int x1, .ref (b + 124)] (wPrL D cs ad b G I)) (va_Qi (lpost_L_count x1 I G) (fun u t => wPo D cs b u.2 u.1 t) (fun q => b ≤ q)) 1 6 (fun q => b ≤ q) := by
  refine w_metW (by decide) (Nat.le_of_ble_eq_true rfl) ?_
  intro p e s m below meth c hX hr hlk htab hK hE hN hH ls hl
  have hX : CallFix p m c cL_count 4 s _ lw_all RL := hX
  have hx := hX.1
  have hb := hX.2.1
  have hown := hX.2.2.2.1
  have hts := hX.2.2.2.2
  have hl : lv_has ls 4 [(0, .ref (b + 0)), (1, .int x1), (2, .ref (b + 124))] := hl
  refine lv_aload_n hx hb dL_count_0 rfl (lv_at hl 2 rfl) ?_
  refine lv_iconst (v := 0) hx hb dL_count_1 (by decide) ?_
  refine lv_aload_n hx hb dL_count_2 rfl (lv_at hl 0 rfl) ?_
  refine lv_iload_n hx hb dL_count_3 rfl (lv_at hl 1 rfl) ?_
  by_cases hok : ok_X5_count x1 I
  · refine w_cIp hH (w_rV (As := [.int x1]) (rest := [.int (0 : Int32), .ref (b + 124)]) hX hK hE hH (c_X5_count _ _ (hpn hok)) ck5 sh0 q4_58 q2_136 q2_137 q1_1 q2_138 hd_X5_count ⟨Nat.le_of_ble_eq_true rfl, Nat.le_of_ble_eq_true rfl⟩ ⟨rfl, rfl⟩ rfl hl.1 rfl (Nat.le_of_ble_eq_true rfl) dL_count_4 ⟨Nat.zero_le _, Nat.zero_le _⟩) (fun r1 H locs hpo hH => ?_)
    refine lv_i2l hx hb dL_count_7 rfl ?_
    refine w_last hX hK hH dL_count_8 (fun H locs hH => ?_)
    refine lv_goto (tgt := 15) hx hb dL_count_9 (by decide) ?_
    refine lv_iconst (v := 0) hx hb dL_count_15 (by decide) ?_
    refine W.widen (k := 1) (n := 6) (Nat.zero_le _) (Nat.zero_le _) ?_
    exact w_eIL hX hr hlk hH (Or.inl ⟨hok, rfl, r1, ⟨hpo, rfl⟩, rfl⟩) dL_count_16
  · refine w_xcI hH (w_xrV (As := [.int x1]) (rest := [.int (0 : Int32), .ref (b + 124)]) hX hK hE hH (c_X5_countx hst _ _ (hpx hok)) ck5 sh0 q4_58 q2_136 q2_137 q1_1 q2_138 hd_X5_count ⟨Nat.le_of_ble_eq_true rfl, Nat.le_of_ble_eq_true rfl⟩ ⟨rfl, rfl⟩ rfl hl.1 rfl (Nat.le_of_ble_eq_true rfl) dL_count_4 ⟨Nat.le_of_ble_eq_true rfl, Nat.le_of_ble_eq_true rfl⟩) (fun E u H1 locs1 q9 ce hXE hH hce hcv hcl => ?_)
    have hu := hXE.1
    have hXE := hXE.2
    rw [hu] at hH
    rcases hdom E hXE with rfl
    · refine vx_catch (name := wIA) hown [] (⟨0, 9, 12, 24⟩ : ExceptionTableEntry) [] (htab.trans rfl) (fun z hz => absurd hz List.not_mem_nil) (by decide) (by decide) (hts _ q3_201) (va_Nw.use rfl (hE.1 _ qn2_156)) hce hcv hcl ?_
      refine lv_astore_n (lv' := [(3, .ref q9), (0, .ref (b + 0)), (1, .int x1), (2, .ref (b + 124))]) hx hb dL_count_12 rfl hl (by decide) rfl (fun ls hl => ?_)
      refine lv_iconst (v := 1) hx hb dL_count_13 (by decide) ?_
      exact w_eIL hX hr hlk hH (Or.inr ⟨hok, rfl, wIA, ⟨hXE, rfl⟩, ⟨rfl, rfl⟩⟩) dL_count_14
abbrev rm_L_openIn : Room := { frames := 9, cells := 1, slots := 6, locals := 142 }
abbrev hh_L_openIn : List (Nat × Nat × Nat × Nat) := [(0, 9, 12, 24)]
theorem hd_L_openIn : yL_openIn.cls ≠ "java/lang/invoke/MethodHandle" ∧ yL_openIn.cls ≠ "java/lang/invoke/VarHandle" ∧ (parseMethodDescriptor yL_openIn.desc).map (fun d => d.parameters.length) = some 3 := by decide +kernel
def lpost_L_openIn (x1 : Int32) (I : wI) (G : wG) (r : Int32) (u : wI × wG) : Prop := ((ok_X5_openIn x1 I) ∧ r = 0 ∧ ∃ v : Int32, (post_X5_openIn x1 I v u.1) ∧ u.2 = vp_updL G 0 v.toInt64) ∨ (¬ (ok_X5_openIn x1 I) ∧ u.2 = G ∧ ∃ E : String, (exc_X5_openIn x1 I E u.1) ∧ ((E = wIA ∧ r = 1)))
set_option maxRecDepth 100000 in
set_option maxHeartbeats 4000000 in
theorem c_L_openIn {l : Launch} {D : va_G} {cs : wC4} {ad : Nat → Nat} {b : Nat} {G : wG} (hst : l.stackTraces = false) (x1 : Int32) (I : wI) (hpn : ok_X5_openIn x1 I → pre_X5_openIn x1 I) (hpx : ¬ (ok_X5_openIn x1 I) → pre_X5_openInx x1 I) (hdom : ∀ (E : String) (u : wI), exc_X5_openIn x1 I E u → E = wIA) : Met l yL_openIn (wsL_ yL_openIn cL_openIn 4 hh_L_openIn) rm_L_openIn (va_Pc [.ref (b + 0), .int x1, .ref (b + 124)] (wPrL D cs ad b G I)) (va_Qi (lpost_L_openIn x1 I G) (fun u t => wPo D cs b u.2 u.1 t) (fun q => b ≤ q)) 1 6 (fun q => b ≤ q) := by
  refine w_metW (by decide) (Nat.le_of_ble_eq_true rfl) ?_
  intro p e s m below meth c hX hr hlk htab hK hE hN hH ls hl
  have hX : CallFix p m c cL_openIn 4 s _ lw_all RL := hX
  have hx := hX.1
  have hb := hX.2.1
  have hown := hX.2.2.2.1
  have hts := hX.2.2.2.2
  have hl : lv_has ls 4 [(0, .ref (b + 0)), (1, .int x1), (2, .ref (b + 124))] := hl
  refine lv_aload_n hx hb dL_openIn_0 rfl (lv_at hl 2 rfl) ?_
  refine lv_iconst (v := 0) hx hb dL_openIn_1 (by decide) ?_
  refine lv_aload_n hx hb dL_openIn_2 rfl (lv_at hl 0 rfl) ?_
  refine lv_iload_n hx hb dL_openIn_3 rfl (lv_at hl 1 rfl) ?_
  by_cases hok : ok_X5_openIn x1 I
  · refine w_cI hH (w_rV (As := [.int x1]) (rest := [.int (0 : Int32), .ref (b + 124)]) hX hK hE hH (c_X5_openIn _ _ (hpn hok)) ck5 sh0 q4_62 q3_90 q3_91 q1_1 q3_92 hd_X5_openIn ⟨Nat.le_of_ble_eq_true rfl, Nat.le_of_ble_eq_true rfl⟩ ⟨rfl, rfl⟩ rfl hl.1 rfl (Nat.le_of_ble_eq_true rfl) dL_openIn_4 ⟨Nat.zero_le _, Nat.zero_le _⟩) (fun r1 I1 H locs hpo hH => ?_)
    refine lv_i2l hx hb dL_openIn_7 rfl ?_
    refine w_last hX hK hH dL_openIn_8 (fun H locs hH => ?_)
    refine lv_goto (tgt := 15) hx hb dL_openIn_9 (by decide) ?_
    refine lv_iconst (v := 0) hx hb dL_openIn_15 (by decide) ?_
    refine W.widen (k := 1) (n := 6) (Nat.zero_le _) (Nat.zero_le _) ?_
    exact w_eIL hX hr hlk hH (Or.inl ⟨hok, rfl, r1, hpo, rfl⟩) dL_openIn_16
  · refine w_xcI hH (w_xrV (As := [.int x1]) (rest := [.int (0 : Int32), .ref (b + 124)]) hX hK hE hH (c_X5_openInx hst _ _ (hpx hok)) ck5 sh0 q4_62 q3_90 q3_91 q1_1 q3_92 hd_X5_openIn ⟨Nat.le_of_ble_eq_true rfl, Nat.le_of_ble_eq_true rfl⟩ ⟨rfl, rfl⟩ rfl hl.1 rfl (Nat.le_of_ble_eq_true rfl) dL_openIn_4 ⟨Nat.le_of_ble_eq_true rfl, Nat.le_of_ble_eq_true rfl⟩) (fun E u H1 locs1 q9 ce hXE hH hce hcv hcl => ?_)
    rcases hdom E u hXE with rfl
    · refine vx_catch (name := wIA) hown [] (⟨0, 9, 12, 24⟩ : ExceptionTableEntry) [] (htab.trans rfl) (fun z hz => absurd hz List.not_mem_nil) (by decide) (by decide) (hts _ q3_201) (va_Nw.use rfl (hE.1 _ qn2_156)) hce hcv hcl ?_
      refine lv_astore_n (lv' := [(3, .ref q9), (0, .ref (b + 0)), (1, .int x1), (2, .ref (b + 124))]) hx hb dL_openIn_12 rfl hl (by decide) rfl (fun ls hl => ?_)
      refine lv_iconst (v := 1) hx hb dL_openIn_13 (by decide) ?_
      exact w_eIL hX hr hlk hH (Or.inr ⟨hok, rfl, wIA, hXE, ⟨rfl, rfl⟩⟩) dL_openIn_14
abbrev rm_L_ifTurned : Room := { frames := 10, cells := 1, slots := 6, locals := 162 }
abbrev hh_L_ifTurned : List (Nat × Nat × Nat × Nat) := [(0, 10, 13, 13), (0, 10, 17, 24)]
theorem hd_L_ifTurned : yL_ifTurned.cls ≠ "java/lang/invoke/MethodHandle" ∧ yL_ifTurned.cls ≠ "java/lang/invoke/VarHandle" ∧ (parseMethodDescriptor yL_ifTurned.desc).map (fun d => d.parameters.length) = some 4 := by decide +kernel
def lpost_L_ifTurned (x1 : Int32) (x2 : Int32) (I : wI) (G : wG) (r : Int32) (u : wI × wG) : Prop := ((ok_X5_ifTurned x1 x2 I) ∧ r = 0 ∧ ∃ v : Int32, (post_X5_ifTurned x1 x2 I v u.1) ∧ u.2 = vp_updL G 0 v.toInt64) ∨ (¬ (ok_X5_ifTurned x1 x2 I) ∧ u.2 = G ∧ ∃ E : String, (exc_X5_ifTurned x1 x2 I E u.1) ∧ ((E = wIO ∧ r = 1) ∨ (E = wIA ∧ r = 2)))
set_option maxRecDepth 100000 in
set_option maxHeartbeats 4000000 in
theorem c_L_ifTurned {l : Launch} {D : va_G} {cs : wC4} {ad : Nat → Nat} {b : Nat} {G : wG} (hst : l.stackTraces = false) (x1 : Int32) (x2 : Int32) (I : wI) (hpn : ok_X5_ifTurned x1 x2 I → pre_X5_ifTurned x1 x2 I) (hpx : ¬ (ok_X5_ifTurned x1 x2 I) → pre_X5_ifTurnedx x1 x2 I) (hdom : ∀ (E : String) (u : wI), exc_X5_ifTurned x1 x2 I E u → E = wIO ∨ E = wIA) : Met l yL_ifTurned (wsL_ yL_ifTurned cL_ifTurned 5 hh_L_ifTurned) rm_L_ifTurned (va_Pc [.ref (b + 0), .int x1, .int x2, .ref (b + 124)] (wPrL D cs ad b G I)) (va_Qi (lpost_L_ifTurned x1 x2 I G) (fun u t => wPo D cs b u.2 u.1 t) (fun q => b ≤ q)) 1 6 (fun q => b ≤ q) := by
  refine w_metW (by decide) (Nat.le_of_ble_eq_true rfl) ?_
  intro p e s m below meth c hX hr hlk htab hK hE hN hH ls hl
  have hX : CallFix p m c cL_ifTurned 5 s _ lw_all RL := hX
  have hx := hX.1
  have hb := hX.2.1
  have hown := hX.2.2.2.1
  have hts := hX.2.2.2.2
  have hl : lv_has ls 5 [(0, .ref (b + 0)), (1, .int x1), (2, .int x2), (3, .ref (b + 124))] := hl
  refine lv_aload_n hx hb dL_ifTurned_0 rfl (lv_at hl 3 rfl) ?_
  refine lv_iconst (v := 0) hx hb dL_ifTurned_1 (by decide) ?_
  refine lv_aload_n hx hb dL_ifTurned_2 rfl (lv_at hl 0 rfl) ?_
  refine lv_iload_n hx hb dL_ifTurned_3 rfl (lv_at hl 1 rfl) ?_
  refine lv_iload_n hx hb dL_ifTurned_4 rfl (lv_at hl 2 rfl) ?_
  by_cases hok : ok_X5_ifTurned x1 x2 I
  · refine w_cI hH (w_rV (As := [.int x1, .int x2]) (rest := [.int (0 : Int32), .ref (b + 124)]) hX hK hE hH (c_X5_ifTurned _ _ _ (hpn hok)) ck5 sh0 q4_66 q3_77 q3_78 q1_1 q3_79 hd_X5_ifTurned ⟨Nat.le_of_ble_eq_true rfl, Nat.le_of_ble_eq_true rfl⟩ ⟨rfl, rfl⟩ rfl hl.1 rfl (Nat.le_of_ble_eq_true rfl) dL_ifTurned_5 ⟨Nat.zero_le _, Nat.zero_le _⟩) (fun r1 I1 H locs hpo hH => ?_)
    refine lv_i2l hx hb dL_ifTurned_8 rfl ?_
    refine w_last hX hK hH dL_ifTurned_9 (fun H locs hH => ?_)
    refine lv_goto (tgt := 21) hx hb dL_ifTurned_10 (by decide) ?_
    refine lv_iconst (v := 0) hx hb dL_ifTurned_21 (by decide) ?_
    refine W.widen (k := 1) (n := 6) (Nat.zero_le _) (Nat.zero_le _) ?_
    exact w_eIL hX hr hlk hH (Or.inl ⟨hok, rfl, r1, hpo, rfl⟩) dL_ifTurned_22
  · refine w_xcI hH (w_xrV (As := [.int x1, .int x2]) (rest := [.int (0 : Int32), .ref (b + 124)]) hX hK hE hH (c_X5_ifTurnedx hst _ _ _ (hpx hok)) ck5 sh0 q4_66 q3_77 q3_78 q1_1 q3_79 hd_X5_ifTurned ⟨Nat.le_of_ble_eq_true rfl, Nat.le_of_ble_eq_true rfl⟩ ⟨rfl, rfl⟩ rfl hl.1 rfl (Nat.le_of_ble_eq_true rfl) dL_ifTurned_5 ⟨Nat.le_of_ble_eq_true rfl, Nat.le_of_ble_eq_true rfl⟩) (fun E u H1 locs1 q9 ce hXE hH hce hcv hcl => ?_)
    rcases hdom E u hXE with rfl | rfl
    · refine vx_catch (name := wIO) hown [] (⟨0, 10, 13, 13⟩ : ExceptionTableEntry) [(⟨0, 10, 17, 24⟩ : ExceptionTableEntry)] (htab.trans rfl) (fun z hz => absurd hz List.not_mem_nil) (by decide) (by decide) (hts _ q3_151) (va_Nw.use rfl (hE.1 _ qn2_239)) hce hcv hcl ?_
      refine lv_astore (lv' := [(4, .ref q9), (0, .ref (b + 0)), (1, .int x1), (2, .int x2), (3, .ref (b + 124))]) hx hb dL_ifTurned_13 hl (by decide) rfl (fun ls hl => ?_)
      refine lv_iconst (v := 1) hx hb dL_ifTurned_15 (by decide) ?_
      exact w_eIL hX hr hlk hH (Or.inr ⟨hok, rfl, wIO, hXE, Or.inl ⟨rfl, rfl⟩⟩) dL_ifTurned_16
    · refine vx_catch (name := wIA) hown [(⟨0, 10, 13, 13⟩ : ExceptionTableEntry)] (⟨0, 10, 17, 24⟩ : ExceptionTableEntry) [] (htab.trans rfl) (fun z hz => by have hz := List.mem_singleton.mp hz; subst hz; exact Or.inr ⟨by decide, wIO, hts _ q3_151, hN.2.2⟩) (by decide) (by decide) (hts _ q3_201) (va_Nw.use rfl (hE.1 _ qn2_156)) hce hcv hcl ?_
      refine lv_astore (lv' := [(4, .ref q9), (0, .ref (b + 0)), (1, .int x1), (2, .int x2), (3, .ref (b + 124))]) hx hb dL_ifTurned_17 hl (by decide) rfl (fun ls hl => ?_)
      refine lv_iconst (v := 2) hx hb dL_ifTurned_19 (by decide) ?_
      exact w_eIL hX hr hlk hH (Or.inr ⟨hok, rfl, wIA, hXE, Or.inr ⟨rfl, rfl⟩⟩) dL_ifTurned_20
end
