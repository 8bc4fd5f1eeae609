abbrev rm_L_turn : Room := { frames := 11, cells := 1, slots := 6, locals := 184 }
abbrev hh_L_turn : List (Nat × Nat × Nat × Nat) := [(0, 6, 9, 15), (0, 6, 13, 17)]
theorem hd_L_turn : yL_turn.cls ≠ "java/lang/invoke/MethodHandle" ∧ yL_turn.cls ≠ "java/lang/invoke/VarHandle" ∧ (parseMethodDescriptor yL_turn.desc).map (fun d => d.parameters.length) = some 2 := by decide +kernel
set_option maxRecDepth 100000 in
set_option maxHeartbeats 4000000 in
theorem c_L_turn {l : Launch} {D : va_G} {cs : wC4} {ad : Nat → Nat} {b : Nat} {G : wG} (hst : l.stackTraces = false) (x1 : Int32) (I : wI) (hp : pre_L_turn x1 I) : Met l yL_turn (wsL_ yL_turn cL_turn 4 hh_L_turn) rm_L_turn (va_Pc [.ref (G.1 0), .int x1] (wPr D cs ad b G I)) (va_Qi (post_L_turn x1 I) (wPo D cs b G) (fun q => b ≤ q)) 1 6 (fun q => b ≤ q) := by
  have hp : okC I := hp
  have hpx : ¬ (ok_X5_turn x1 I) → pre_X5_turnx x1 I := fun h => ⟨hp, h⟩
  have hpn : ok_X5_turn x1 I → pre_X5_turn x1 I := fun h => ⟨hp, h⟩
  have hdom : ∀ (E : String) (u : wI), exc_X5_turn x1 I E u → E = wIO ∨ E = wIS := fun E u h => h.2.elim (fun q => Or.inl q.2) (fun q => Or.inr q.2)
  refine w_metW (by decide) (Nat.le_of_ble_eq_true rfl) ?_
  intro p e s m below meth c hX hr hlk htab hK hE hH ls hl
  have hX : CallFix p m c cL_turn 4 s _ lw_all RL := hX
  have hx := hX.1
  have hb := hX.2.1
  have hown := hX.2.2.2.1
  have hts := hX.2.2.2.2
  have hl : lv_has ls 4 [(0, .ref (G.1 0)), (1, .int x1)] := hl
  refine lv_aload_n hx hb dL_turn_0 rfl (lv_at hl 0 rfl) ?_
  refine lv_iload_n hx hb dL_turn_1 rfl (lv_at hl 1 rfl) ?_
  by_cases hok : ok_X5_turn x1 I
  · refine w_cI hH (w_rV (As := [.int x1]) (rest := []) hX hK hE hH (c_X5_turn _ _ (hpn hok)) ck5 sh0 q3_134 q3_135 q3_136 q1_1 q3_137 hd_X5_turn ⟨Nat.le_of_ble_eq_true rfl, Nat.le_of_ble_eq_true rfl⟩ ⟨rfl, rfl⟩ rfl hl.1 rfl (Nat.le_of_ble_eq_true rfl) dL_turn_2 ⟨Nat.zero_le _, Nat.zero_le _⟩) (fun r1 I1 H locs hpo hH => ?_)
    refine lv_istore_n (lv' := [(2, .int r1), (0, .ref (G.1 0)), (1, .int x1)]) hx hb dL_turn_5 rfl hl (by decide) rfl (fun ls hl => ?_)
    refine lv_goto (tgt := 17) hx hb dL_turn_6 (by decide) ?_
    refine lv_iload_n hx hb dL_turn_17 rfl (lv_at hl 0 rfl) ?_
    refine W.widen (k := 1) (n := 6) (Nat.zero_le _) (Nat.zero_le _) ?_
    exact w_eI hX hr hlk hH (Or.inl ⟨hok, hpo⟩) dL_turn_18
  · refine w_xcI hH (w_xrV (As := [.int x1]) (rest := []) hX hK hE hH (c_X5_turnx hst _ _ (hpx hok)) ck5 sh0 q3_134 q3_135 q3_136 q1_1 q3_137 hd_X5_turn ⟨Nat.le_of_ble_eq_true rfl, Nat.le_of_ble_eq_true rfl⟩ ⟨rfl, rfl⟩ rfl hl.1 rfl (Nat.le_of_ble_eq_true rfl) dL_turn_2 ⟨Nat.le_of_ble_eq_true rfl, Nat.le_of_ble_eq_true rfl⟩) (fun E u H1 locs1 q9 ce hXE hH hce hcv hcl => ?_)
    rcases hdom E u hXE with rfl | rfl
    · refine vx_catch (name := wIO) hown [] (⟨0, 6, 9, 15⟩ : ExceptionTableEntry) [(⟨0, 6, 13, 17⟩ : ExceptionTableEntry)] (htab.trans rfl) (fun z hz => absurd hz List.not_mem_nil) (by decide) (by decide) (hts _ q2_75) (va_Nw.use rfl (hE.1 _ qn2_86)) hce hcv hcl ?_
      refine lv_astore_n (lv' := [(3, .ref q9), (0, .ref (G.1 0)), (1, .int x1)]) hx hb dL_turn_9 rfl hl (by decide) rfl (fun ls hl => ?_)
      refine lv_bipush (v := -31) hx hb dL_turn_10 (by decide) ?_
      exact w_eI hX hr hlk hH (Or.inr ⟨hok, wIO, hXE, Or.inl ⟨rfl, rfl⟩⟩) dL_turn_12
    · refine vx_catch (name := wIS) hown [(⟨0, 6, 9, 15⟩ : ExceptionTableEntry)] (⟨0, 6, 13, 17⟩ : ExceptionTableEntry) [] (htab.trans rfl) (fun z hz => by have hz := List.mem_singleton.mp hz; subst hz; exact Or.inr ⟨by decide, wIO, hts _ q2_75, hE.2.2.2.2.1⟩) (by decide) (by decide) (hts _ q1_207) (va_Nw.use rfl (hE.1 _ qn1_214)) hce hcv hcl ?_
      refine lv_astore_n (lv' := [(3, .ref q9), (0, .ref (G.1 0)), (1, .int x1)]) hx hb dL_turn_13 rfl hl (by decide) rfl (fun ls hl => ?_)
      refine lv_bipush (v := -33) hx hb dL_turn_14 (by decide) ?_
      exact w_eI hX hr hlk hH (Or.inr ⟨hok, wIS, hXE, Or.inr ⟨rfl, rfl⟩⟩) dL_turn_16
abbrev rm_L_back : Room := { frames := 11, cells := 1, slots := 6, locals := 184 }
abbrev hh_L_back : List (Nat × Nat × Nat × Nat) := [(0, 6, 9, 15), (0, 6, 13, 17)]
theorem hd_L_back : yL_back.cls ≠ "java/lang/invoke/MethodHandle" ∧ yL_back.cls ≠ "java/lang/invoke/VarHandle" ∧ (parseMethodDescriptor yL_back.desc).map (fun d => d.parameters.length) = some 2 := by decide +kernel
set_option maxRecDepth 100000 in
set_option maxHeartbeats 4000000 in
theorem c_L_back {l : Launch} {D : va_G} {cs : wC4} {ad : Nat → Nat} {b : Nat} {G : wG} (hst : l.stackTraces = false) (x1 : Int32) (I : wI) (hp : pre_L_back x1 I) : Met l yL_back (wsL_ yL_back cL_back 4 hh_L_back) rm_L_back (va_Pc [.ref (G.1 0), .int x1] (wPr D cs ad b G I)) (va_Qi (post_L_back x1 I) (wPo D cs b G) (fun q => b ≤ q)) 1 6 (fun q => b ≤ q) := by
  have hp : okC I := hp
  have hpx : ¬ (ok_X5_back x1 I) → pre_X5_backx x1 I := fun h => ⟨hp, h⟩
  have hpn : ok_X5_back x1 I → pre_X5_back x1 I := fun h => ⟨hp, h⟩
  have hdom : ∀ (E : String) (u : wI), exc_X5_back x1 I E u → E = wIO ∨ E = wIS := fun E u h => h.2.elim (fun q => Or.inl q.2) (fun q => Or.inr q.2)
  refine w_metW (by decide) (Nat.le_of_ble_eq_true rfl) ?_
  intro p e s m below meth c hX hr hlk htab hK hE hH ls hl
  have hX : CallFix p m c cL_back 4 s _ lw_all RL := hX
  have hx := hX.1
  have hb := hX.2.1
  have hown := hX.2.2.2.1
  have hts := hX.2.2.2.2
  have hl : lv_has ls 4 [(0, .ref (G.1 0)), (1, .int x1)] := hl
  refine lv_aload_n hx hb dL_back_0 rfl (lv_at hl 0 rfl) ?_
  refine lv_iload_n hx hb dL_back_1 rfl (lv_at hl 1 rfl) ?_
  by_cases hok : ok_X5_back x1 I
  · refine w_cI hH (w_rV (As := [.int x1]) (rest := []) hX hK hE hH (c_X5_back _ _ (hpn hok)) ck5 sh0 q3_160 q3_161 q3_162 q1_1 q3_163 hd_X5_back ⟨Nat.le_of_ble_eq_true rfl, Nat.le_of_ble_eq_true rfl⟩ ⟨rfl, rfl⟩ rfl hl.1 rfl (Nat.le_of_ble_eq_true rfl) dL_back_2 ⟨Nat.zero_le _, Nat.zero_le _⟩) (fun r1 I1 H locs hpo hH => ?_)
    refine lv_istore_n (lv' := [(2, .int r1), (0, .ref (G.1 0)), (1, .int x1)]) hx hb dL_back_5 rfl hl (by decide) rfl (fun ls hl => ?_)
    refine lv_goto (tgt := 17) hx hb dL_back_6 (by decide) ?_
    refine lv_iload_n hx hb dL_back_17 rfl (lv_at hl 0 rfl) ?_
    refine W.widen (k := 1) (n := 6) (Nat.zero_le _) (Nat.zero_le _) ?_
    exact w_eI hX hr hlk hH (Or.inl ⟨hok, hpo⟩) dL_back_18
  · refine w_xcI hH (w_xrV (As := [.int x1]) (rest := []) hX hK hE hH (c_X5_backx hst _ _ (hpx hok)) ck5 sh0 q3_160 q3_161 q3_162 q1_1 q3_163 hd_X5_back ⟨Nat.le_of_ble_eq_true rfl, Nat.le_of_ble_eq_true rfl⟩ ⟨rfl, rfl⟩ rfl hl.1 rfl (Nat.le_of_ble_eq_true rfl) dL_back_2 ⟨Nat.le_of_ble_eq_true rfl, Nat.le_of_ble_eq_true rfl⟩) (fun E u H1 locs1 q9 ce hXE hH hce hcv hcl => ?_)
    rcases hdom E u hXE with rfl | rfl
    · refine vx_catch (name := wIO) hown [] (⟨0, 6, 9, 15⟩ : ExceptionTableEntry) [(⟨0, 6, 13, 17⟩ : ExceptionTableEntry)] (htab.trans rfl) (fun z hz => absurd hz List.not_mem_nil) (by decide) (by decide) (hts _ q2_75) (va_Nw.use rfl (hE.1 _ qn2_86)) hce hcv hcl ?_
      refine lv_astore_n (lv' := [(3, .ref q9), (0, .ref (G.1 0)), (1, .int x1)]) hx hb dL_back_9 rfl hl (by decide) rfl (fun ls hl => ?_)
      refine lv_bipush (v := -31) hx hb dL_back_10 (by decide) ?_
      exact w_eI hX hr hlk hH (Or.inr ⟨hok, wIO, hXE, Or.inl ⟨rfl, rfl⟩⟩) dL_back_12
    · refine vx_catch (name := wIS) hown [(⟨0, 6, 9, 15⟩ : ExceptionTableEntry)] (⟨0, 6, 13, 17⟩ : ExceptionTableEntry) [] (htab.trans rfl) (fun z hz => by have hz := List.mem_singleton.mp hz; subst hz; exact Or.inr ⟨by decide, wIO, hts _ q2_75, hE.2.2.2.2.1⟩) (by decide) (by decide) (hts _ q1_207) (va_Nw.use rfl (hE.1 _ qn1_214)) hce hcv hcl ?_
      refine lv_astore_n (lv' := [(3, .ref q9), (0, .ref (G.1 0)), (1, .int x1)]) hx hb dL_back_13 rfl hl (by decide) rfl (fun ls hl => ?_)
      refine lv_bipush (v := -33) hx hb dL_back_14 (by decide) ?_
      exact w_eI hX hr hlk hH (Or.inr ⟨hok, wIS, hXE, Or.inr ⟨rfl, rfl⟩⟩) dL_back_16
abbrev rm_L_cut : Room := { frames := 10, cells := 1, slots := 6, locals := 164 }
abbrev hh_L_cut : List (Nat × Nat × Nat × Nat) := [(0, 9, 12, 15), (0, 9, 17, 26)]
theorem hd_L_cut : yL_cut.cls ≠ "java/lang/invoke/MethodHandle" ∧ yL_cut.cls ≠ "java/lang/invoke/VarHandle" ∧ (parseMethodDescriptor yL_cut.desc).map (fun d => d.parameters.length) = some 4 := by decide +kernel
set_option maxRecDepth 100000 in
set_option maxHeartbeats 4000000 in
theorem c_L_cut {l : Launch} {D : va_G} {cs : wC4} {ad : Nat → Nat} {b : Nat} {G : wG} (hst : l.stackTraces = false) (x1 : Int32) (x2 : Int32) (x3 : Int32) (I : wI) (hp : pre_L_cut x1 x2 x3 I) : Met l yL_cut (wsL_ yL_cut cL_cut 6 hh_L_cut) rm_L_cut (va_Pc [.ref (G.1 0), .int x1, .int x2, .int x3] (wPr D cs ad b G I)) (va_Qi (post_L_cut x1 x2 x3 I) (wPo D cs b G) (fun q => b ≤ q)) 1 6 (fun q => b ≤ q) := by
  have hp : okC I := hp
  have hpx : ¬ (ok_X5_cut x1 x2 x3 I) → pre_X5_cutx x1 x2 x3 I := fun h => ⟨hp, h⟩
  have hpn : ok_X5_cut x1 x2 x3 I → pre_X5_cut x1 x2 x3 I := fun h => ⟨hp, h⟩
  have hdom : ∀ (E : String) (u : wI), exc_X5_cut x1 x2 x3 I E u → E = wIO ∨ E = wIA := fun E u h => h.2.elim (fun q => Or.inl q.2) (fun q => Or.inr q.2)
  refine w_metW (by decide) (Nat.le_of_ble_eq_true rfl) ?_
  intro p e s m below meth c hX hr hlk htab hK hE hH ls hl
  have hX : CallFix p m c cL_cut 6 s _ lw_all RL := hX
  have hx := hX.1
  have hb := hX.2.1
  have hown := hX.2.2.2.1
  have hts := hX.2.2.2.2
  have hl : lv_has ls 6 [(0, .ref (G.1 0)), (1, .int x1), (2, .int x2), (3, .int x3)] := hl
  refine lv_aload_n hx hb dL_cut_0 rfl (lv_at hl 0 rfl) ?_
  refine lv_iload_n hx hb dL_cut_1 rfl (lv_at hl 1 rfl) ?_
  refine lv_iload_n hx hb dL_cut_2 rfl (lv_at hl 2 rfl) ?_
  refine lv_iload_n hx hb dL_cut_3 rfl (lv_at hl 3 rfl) ?_
  by_cases hok : ok_X5_cut x1 x2 x3 I
  · refine w_cI hH (w_rV (As := [.int x1, .int x2, .int x3]) (rest := []) hX hK hE hH (c_X5_cut _ _ _ _ (hpn hok)) ck5 sh0 q3_171 q3_172 q3_173 q1_1 q3_174 hd_X5_cut ⟨Nat.le_of_ble_eq_true rfl, Nat.le_of_ble_eq_true rfl⟩ ⟨rfl, rfl⟩ rfl hl.1 rfl (Nat.le_of_ble_eq_true rfl) dL_cut_4 ⟨Nat.zero_le _, Nat.zero_le _⟩) (fun r1 I1 H locs hpo hH => ?_)
    refine lv_istore (lv' := [(4, .int r1), (0, .ref (G.1 0)), (1, .int x1), (2, .int x2), (3, .int x3)]) hx hb dL_cut_7 hl (by decide) rfl (fun ls hl => ?_)
    refine lv_goto (tgt := 22) hx hb dL_cut_9 (by decide) ?_
    refine lv_iload hx hb dL_cut_22 (lv_at hl 0 rfl) ?_
    refine W.widen (k := 1) (n := 6) (Nat.zero_le _) (Nat.zero_le _) ?_
    exact w_eI hX hr hlk hH (Or.inl ⟨hok, hpo⟩) dL_cut_24
  · refine w_xcI hH (w_xrV (As := [.int x1, .int x2, .int x3]) (rest := []) hX hK hE hH (c_X5_cutx hst _ _ _ _ (hpx hok)) ck5 sh0 q3_171 q3_172 q3_173 q1_1 q3_174 hd_X5_cut ⟨Nat.le_of_ble_eq_true rfl, Nat.le_of_ble_eq_true rfl⟩ ⟨rfl, rfl⟩ rfl hl.1 rfl (Nat.le_of_ble_eq_true rfl) dL_cut_4 ⟨Nat.le_of_ble_eq_true rfl, Nat.le_of_ble_eq_true rfl⟩) (fun E u H1 locs1 q9 ce hXE hH hce hcv hcl => ?_)
    rcases hdom E u hXE with rfl | rfl
    · refine vx_catch (name := wIO) hown [] (⟨0, 9, 12, 15⟩ : ExceptionTableEntry) [(⟨0, 9, 17, 26⟩ : ExceptionTableEntry)] (htab.trans rfl) (fun z hz => absurd hz List.not_mem_nil) (by decide) (by decide) (hts _ q2_75) (va_Nw.use rfl (hE.1 _ qn2_86)) hce hcv hcl ?_
      refine lv_astore (lv' := [(5, .ref q9), (0, .ref (G.1 0)), (1, .int x1), (2, .int x2), (3, .int x3)]) hx hb dL_cut_12 hl (by decide) rfl (fun ls hl => ?_)
      refine lv_bipush (v := -31) hx hb dL_cut_14 (by decide) ?_
      exact w_eI hX hr hlk hH (Or.inr ⟨hok, wIO, hXE, Or.inl ⟨rfl, rfl⟩⟩) dL_cut_16
    · refine vx_catch (name := wIA) hown [(⟨0, 9, 12, 15⟩ : ExceptionTableEntry)] (⟨0, 9, 17, 26⟩ : ExceptionTableEntry) [] (htab.trans rfl) (fun z hz => by have hz := List.mem_singleton.mp hz; subst hz; exact Or.inr ⟨by decide, wIO, hts _ q2_75, hE.2.2.2.2.2.2⟩) (by decide) (by decide) (hts _ q2_76) (va_Nw.use rfl (hE.1 _ qn2_120)) hce hcv hcl ?_
      refine lv_astore (lv' := [(5, .ref q9), (0, .ref (G.1 0)), (1, .int x1), (2, .int x2), (3, .int x3)]) hx hb dL_cut_17 hl (by decide) rfl (fun ls hl => ?_)
      refine lv_bipush (v := -32) hx hb dL_cut_19 (by decide) ?_
      exact w_eI hX hr hlk hH (Or.inr ⟨hok, wIA, hXE, Or.inr ⟨rfl, rfl⟩⟩) dL_cut_21
abbrev rm_L_stick : Room := { frames := 10, cells := 1, slots := 6, locals := 161 }
abbrev hh_L_stick : List (Nat × Nat × Nat × Nat) := [(0, 6, 9, 15)]
theorem hd_L_stick : yL_stick.cls ≠ "java/lang/invoke/MethodHandle" ∧ yL_stick.cls ≠ "java/lang/invoke/VarHandle" ∧ (parseMethodDescriptor yL_stick.desc).map (fun d => d.parameters.length) = some 2 := by decide +kernel
set_option maxRecDepth 100000 in
set_option maxHeartbeats 4000000 in
theorem c_L_stick {l : Launch} {D : va_G} {cs : wC4} {ad : Nat → Nat} {b : Nat} {G : wG} (hst : l.stackTraces = false) (x1 : Int32) (I : wI) (hp : pre_L_stick x1 I) : Met l yL_stick (wsL_ yL_stick cL_stick 4 hh_L_stick) rm_L_stick (va_Pc [.ref (G.1 0), .int x1] (wPr D cs ad b G I)) (va_Qi (post_L_stick x1 I) (wPo D cs b G) (fun q => b ≤ q)) 1 6 (fun q => b ≤ q) := by
  have hp : okC I := hp
  have hpx : ¬ (ok_X5_stick x1 I) → pre_X5_stickx x1 I := fun h => ⟨hp, h⟩
  have hpn : ok_X5_stick x1 I → pre_X5_stick x1 I := fun h => ⟨hp, h⟩
  have hdom : ∀ (E : String) (u : wI), exc_X5_stick x1 I E u → E = wIO := fun E u h => h.2
  refine w_metW (by decide) (Nat.le_of_ble_eq_true rfl) ?_
  intro p e s m below meth c hX hr hlk htab hK hE hH ls hl
  have hX : CallFix p m c cL_stick 4 s _ lw_all RL := hX
  have hx := hX.1
  have hb := hX.2.1
  have hown := hX.2.2.2.1
  have hts := hX.2.2.2.2
  have hl : lv_has ls 4 [(0, .ref (G.1 0)), (1, .int x1)] := hl
  refine lv_aload_n hx hb dL_stick_0 rfl (lv_at hl 0 rfl) ?_
  refine lv_iload_n hx hb dL_stick_1 rfl (lv_at hl 1 rfl) ?_
  by_cases hok : ok_X5_stick x1 I
  · refine w_cI hH (w_rV (As := [.int x1]) (rest := []) hX hK hE hH (c_X5_stick _ _ (hpn hok)) ck5 sh0 q3_186 q3_187 q3_188 q1_1 q3_189 hd_X5_stick ⟨Nat.le_of_ble_eq_true rfl, Nat.le_of_ble_eq_true rfl⟩ ⟨rfl, rfl⟩ rfl hl.1 rfl (Nat.le_of_ble_eq_true rfl) dL_stick_2 ⟨Nat.zero_le _, Nat.zero_le _⟩) (fun r1 I1 H locs hpo hH => ?_)
    refine lv_istore_n (lv' := [(2, .int r1), (0, .ref (G.1 0)), (1, .int x1)]) hx hb dL_stick_5 rfl hl (by decide) rfl (fun ls hl => ?_)
    refine lv_goto (tgt := 13) hx hb dL_stick_6 (by decide) ?_
    refine lv_iload_n hx hb dL_stick_13 rfl (lv_at hl 0 rfl) ?_
    refine W.widen (k := 1) (n := 6) (Nat.zero_le _) (Nat.zero_le _) ?_
    exact w_eI hX hr hlk hH (Or.inl ⟨hok, hpo⟩) dL_stick_14
  · refine w_xcI hH (w_xrV (As := [.int x1]) (rest := []) hX hK hE hH (c_X5_stickx hst _ _ (hpx hok)) ck5 sh0 q3_186 q3_187 q3_188 q1_1 q3_189 hd_X5_stick ⟨Nat.le_of_ble_eq_true rfl, Nat.le_of_ble_eq_true rfl⟩ ⟨rfl, rfl⟩ rfl hl.1 rfl (Nat.le_of_ble_eq_true rfl) dL_stick_2 ⟨Nat.le_of_ble_eq_true rfl, Nat.le_of_ble_eq_true rfl⟩) (fun E u H1 locs1 q9 ce hXE hH hce hcv hcl => ?_)
    rcases hdom E u hXE with rfl
    · refine vx_catch (name := wIO) hown [] (⟨0, 6, 9, 15⟩ : ExceptionTableEntry) [] (htab.trans rfl) (fun z hz => absurd hz List.not_mem_nil) (by decide) (by decide) (hts _ q2_75) (va_Nw.use rfl (hE.1 _ qn2_86)) hce hcv hcl ?_
      refine lv_astore_n (lv' := [(3, .ref q9), (0, .ref (G.1 0)), (1, .int x1)]) hx hb dL_stick_9 rfl hl (by decide) rfl (fun ls hl => ?_)
      refine lv_bipush (v := -31) hx hb dL_stick_10 (by decide) ?_
      exact w_eI hX hr hlk hH (Or.inr ⟨hok, wIO, hXE, ⟨rfl, rfl⟩⟩) dL_stick_12
abbrev rm_L_undo : Room := { frames := 9, cells := 1, slots := 6, locals := 141 }
abbrev hh_L_undo : List (Nat × Nat × Nat × Nat) := [(0, 5, 8, 17)]
theorem hd_L_undo : yL_undo.cls ≠ "java/lang/invoke/MethodHandle" ∧ yL_undo.cls ≠ "java/lang/invoke/VarHandle" ∧ (parseMethodDescriptor yL_undo.desc).map (fun d => d.parameters.length) = some 1 := by decide +kernel
set_option maxRecDepth 100000 in
set_option maxHeartbeats 4000000 in
theorem c_L_undo {l : Launch} {D : va_G} {cs : wC4} {ad : Nat → Nat} {b : Nat} {G : wG} (hst : l.stackTraces = false)  (I : wI) (hp : pre_L_undo  I) : Met l yL_undo (wsL_ yL_undo cL_undo 3 hh_L_undo) rm_L_undo (va_Pc [.ref (G.1 0)] (wPr D cs ad b G I)) (va_Qi (post_L_undo  I) (wPo D cs b G) (fun q => b ≤ q)) 1 6 (fun q => b ≤ q) := by
  have hp : okC I := hp
  have hpx : ¬ ok_X5_undo I → pre_X5_undox I := fun h => ⟨hp, Decidable.not_not.mp h⟩
  have hpn : ok_X5_undo  I → pre_X5_undo  I := fun h => ⟨hp, h⟩
  have hdom : ∀ (E : String) (u : wI), exc_X5_undo  I E u → E = wIS := fun E u h => h.2
  refine w_metW (by decide) (Nat.le_of_ble_eq_true rfl) ?_
  intro p e s m below meth c hX hr hlk htab hK hE hH ls hl
  have hX : CallFix p m c cL_undo 3 s _ lw_all RL := hX
  have hx := hX.1
  have hb := hX.2.1
  have hown := hX.2.2.2.1
  have hts := hX.2.2.2.2
  have hl : lv_has ls 3 [(0, .ref (G.1 0))] := hl
  refine lv_aload_n hx hb dL_undo_0 rfl (lv_at hl 0 rfl) ?_
  by_cases hok : ok_X5_undo  I
  · refine w_cI hH (w_rV (As := []) (rest := []) hX hK hE hH (c_X5_undo  _ (hpn hok)) ck5 sh0 q1_208 q1_209 q1_210 q1_1 q1_211 hd_X5_undo ⟨Nat.le_of_ble_eq_true rfl, Nat.le_of_ble_eq_true rfl⟩ ⟨rfl, rfl⟩ rfl hl.1 rfl (Nat.le_of_ble_eq_true rfl) dL_undo_1 ⟨Nat.zero_le _, Nat.zero_le _⟩) (fun r1 I1 H locs hpo hH => ?_)
    refine lv_istore_n (lv' := [(1, .int r1), (0, .ref (G.1 0))]) hx hb dL_undo_4 rfl hl (by decide) rfl (fun ls hl => ?_)
    refine lv_goto (tgt := 12) hx hb dL_undo_5 (by decide) ?_
    refine lv_iload_n hx hb dL_undo_12 rfl (lv_at hl 0 rfl) ?_
    refine W.widen (k := 1) (n := 6) (Nat.zero_le _) (Nat.zero_le _) ?_
    exact w_eI hX hr hlk hH (Or.inl ⟨hok, hpo⟩) dL_undo_13
  · refine w_xcI hH (w_xrV (As := []) (rest := []) hX hK hE hH (c_X5_undox hst  _ (hpx hok)) ck5 sh0 q1_208 q1_209 q1_210 q1_1 q1_211 hd_X5_undo ⟨Nat.le_of_ble_eq_true rfl, Nat.le_of_ble_eq_true rfl⟩ ⟨rfl, rfl⟩ rfl hl.1 rfl (Nat.le_of_ble_eq_true rfl) dL_undo_1 ⟨Nat.le_of_ble_eq_true rfl, Nat.le_of_ble_eq_true rfl⟩) (fun E u H1 locs1 q9 ce hXE hH hce hcv hcl => ?_)
    rcases hdom E u hXE with rfl
    · refine vx_catch (name := wIS) hown [] (⟨0, 5, 8, 17⟩ : ExceptionTableEntry) [] (htab.trans rfl) (fun z hz => absurd hz List.not_mem_nil) (by decide) (by decide) (hts _ q1_207) (va_Nw.use rfl (hE.1 _ qn1_214)) hce hcv hcl ?_
      refine lv_astore_n (lv' := [(2, .ref q9), (0, .ref (G.1 0))]) hx hb dL_undo_8 rfl hl (by decide) rfl (fun ls hl => ?_)
      refine lv_bipush (v := -33) hx hb dL_undo_9 (by decide) ?_
      exact w_eI hX hr hlk hH (Or.inr ⟨hok, wIS, hXE, ⟨rfl, rfl⟩⟩) dL_undo_11
abbrev rm_L_goBack : Room := { frames := 9, cells := 1, slots := 6, locals := 140 }
abbrev hh_L_goBack : List (Nat × Nat × Nat × Nat) := [(0, 5, 8, 17)]
theorem hd_L_goBack : yL_goBack.cls ≠ "java/lang/invoke/MethodHandle" ∧ yL_goBack.cls ≠ "java/lang/invoke/VarHandle" ∧ (parseMethodDescriptor yL_goBack.desc).map (fun d => d.parameters.length) = some 1 := by decide +kernel
set_option maxRecDepth 100000 in
set_option maxHeartbeats 4000000 in
theorem c_L_goBack {l : Launch} {D : va_G} {cs : wC4} {ad : Nat → Nat} {b : Nat} {G : wG} (hst : l.stackTraces = false)  (I : wI) (hp : pre_L_goBack  I) : Met l yL_goBack (wsL_ yL_goBack cL_goBack 3 hh_L_goBack) rm_L_goBack (va_Pc [.ref (G.1 0)] (wPr D cs ad b G I)) (va_Qi (post_L_goBack  I) (wPo D cs b G) (fun q => b ≤ q)) 1 6 (fun q => b ≤ q) := by
  have hp : okC I := hp
  have hpx : ¬ (ok_X5_goBack  I) → pre_X5_goBackx  I := fun h => ⟨hp, h⟩
  have hpn : ok_X5_goBack  I → pre_X5_goBack  I := fun h => ⟨hp, h⟩
  have hdom : ∀ (E : String) (u : wI), exc_X5_goBack  I E u → E = wIS := fun E u h => h.2
  refine w_metW (by decide) (Nat.le_of_ble_eq_true rfl) ?_
  intro p e s m below meth c hX hr hlk htab hK hE hH ls hl
  have hX : CallFix p m c cL_goBack 3 s _ lw_all RL := hX
  have hx := hX.1
  have hb := hX.2.1
  have hown := hX.2.2.2.1
  have hts := hX.2.2.2.2
  have hl : lv_has ls 3 [(0, .ref (G.1 0))] := hl
  refine lv_aload_n hx hb dL_goBack_0 rfl (lv_at hl 0 rfl) ?_
  by_cases hok : ok_X5_goBack  I
  · refine w_cI hH (w_rV (As := []) (rest := []) hX hK hE hH (c_X5_goBack  _ (hpn hok)) ck5 sh0 q2_55 q2_56 q2_57 q1_1 q2_58 hd_X5_goBack ⟨Nat.le_of_ble_eq_true rfl, Nat.le_of_ble_eq_true rfl⟩ ⟨rfl, rfl⟩ rfl hl.1 rfl (Nat.le_of_ble_eq_true rfl) dL_goBack_1 ⟨Nat.zero_le _, Nat.zero_le _⟩) (fun r1 I1 H locs hpo hH => ?_)
    refine lv_istore_n (lv' := [(1, .int r1), (0, .ref (G.1 0))]) hx hb dL_goBack_4 rfl hl (by decide) rfl (fun ls hl => ?_)
    refine lv_goto (tgt := 12) hx hb dL_goBack_5 (by decide) ?_
    refine lv_iload_n hx hb dL_goBack_12 rfl (lv_at hl 0 rfl) ?_
    refine W.widen (k := 1) (n := 6) (Nat.zero_le _) (Nat.zero_le _) ?_
    exact w_eI hX hr hlk hH (Or.inl ⟨hok, hpo⟩) dL_goBack_13
  · refine w_xcI hH (w_xrV (As := []) (rest := []) hX hK hE hH (c_X5_goBackx hst  _ (hpx hok)) ck5 sh0 q2_55 q2_56 q2_57 q1_1 q2_58 hd_X5_goBack ⟨Nat.le_of_ble_eq_true rfl, Nat.le_of_ble_eq_true rfl⟩ ⟨rfl, rfl⟩ rfl hl.1 rfl (Nat.le_of_ble_eq_true rfl) dL_goBack_1 ⟨Nat.le_of_ble_eq_true rfl, Nat.le_of_ble_eq_true rfl⟩) (fun E u H1 locs1 q9 ce hXE hH hce hcv hcl => ?_)
    rcases hdom E u hXE with rfl
    · refine vx_catch (name := wIS) hown [] (⟨0, 5, 8, 17⟩ : ExceptionTableEntry) [] (htab.trans rfl) (fun z hz => absurd hz List.not_mem_nil) (by decide) (by decide) (hts _ q1_207) (va_Nw.use rfl (hE.1 _ qn1_214)) hce hcv hcl ?_
      refine lv_astore_n (lv' := [(2, .ref q9), (0, .ref (G.1 0))]) hx hb dL_goBack_8 rfl hl (by decide) rfl (fun ls hl => ?_)
      refine lv_bipush (v := -33) hx hb dL_goBack_9 (by decide) ?_
      exact w_eI hX hr hlk hH (Or.inr ⟨hok, wIS, hXE, ⟨rfl, rfl⟩⟩) dL_goBack_11
abbrev rm_L_at : Room := { frames := 10, cells := 1, slots := 6, locals := 162 }
abbrev hh_L_at : List (Nat × Nat × Nat × Nat) := [(0, 7, 10, 15), (0, 7, 15, 26)]
theorem hd_L_at : yL_at.cls ≠ "java/lang/invoke/MethodHandle" ∧ yL_at.cls ≠ "java/lang/invoke/VarHandle" ∧ (parseMethodDescriptor yL_at.desc).map (fun d => d.parameters.length) = some 3 := by decide +kernel
set_option maxRecDepth 100000 in
set_option maxHeartbeats 4000000 in
theorem c_L_at {l : Launch} {D : va_G} {cs : wC4} {ad : Nat → Nat} {b : Nat} {G : wG} (hst : l.stackTraces = false) (x1 : Int32) (x2 : Int32) (I : wI) (hp : pre_L_at x1 x2 I) : Met l yL_at (wsL_ yL_at cL_at 5 hh_L_at) rm_L_at (va_Pc [.ref (G.1 0), .int x1, .int x2] (wPr D cs ad b G I)) (va_Qi (fun r I' => I' = I ∧ post_L_at x1 x2 I r) (wPo D cs b G) (fun q => b ≤ q)) 1 6 (fun q => b ≤ q) := by
  have hp : okC I := hp
  have hpx : ¬ (ok_X5_at x1 x2 I) → pre_X5_atx x1 x2 I := fun h => ⟨hp, h⟩
  have hpn : ok_X5_at x1 x2 I → pre_X5_at x1 x2 I := fun h => ⟨hp, h⟩
  have hdom : ∀ (E : String), exc_X5_at x1 x2 I E → E = wIO ∨ E = wIA := fun E h => h.elim (fun q => Or.inl q.2) (fun q => Or.inr q.2)
  refine w_metW (by decide) (Nat.le_of_ble_eq_true rfl) ?_
  intro p e s m below meth c hX hr hlk htab hK hE hH ls hl
  have hX : CallFix p m c cL_at 5 s _ lw_all RL := hX
  have hx := hX.1
  have hb := hX.2.1
  have hown := hX.2.2.2.1
  have hts := hX.2.2.2.2
  have hl : lv_has ls 5 [(0, .ref (G.1 0)), (1, .int x1), (2, .int x2)] := hl
  refine lv_aload_n hx hb dL_at_0 rfl (lv_at hl 0 rfl) ?_
  refine lv_iload_n hx hb dL_at_1 rfl (lv_at hl 1 rfl) ?_
  refine lv_iload_n hx hb dL_at_2 rfl (lv_at hl 2 rfl) ?_
  by_cases hok : ok_X5_at x1 x2 I
  · refine w_cIp hH (w_rV (As := [.int x1, .int x2]) (rest := []) hX hK hE hH (c_X5_at _ _ _ (hpn hok)) ck5 sh0 q2_77 q2_78 q2_79 q1_1 q2_80 hd_X5_at ⟨Nat.le_of_ble_eq_true rfl, Nat.le_of_ble_eq_true rfl⟩ ⟨rfl, rfl⟩ rfl hl.1 rfl (Nat.le_of_ble_eq_true rfl) dL_at_3 ⟨Nat.zero_le _, Nat.zero_le _⟩) (fun r1 H locs hpo hH => ?_)
    refine lv_istore_n (lv' := [(3, .int r1), (0, .ref (G.1 0)), (1, .int x1), (2, .int x2)]) hx hb dL_at_6 rfl hl (by decide) rfl (fun ls hl => ?_)
    refine lv_goto (tgt := 20) hx hb dL_at_7 (by decide) ?_
    refine lv_iload_n hx hb dL_at_20 rfl (lv_at hl 0 rfl) ?_
    refine W.widen (k := 1) (n := 6) (Nat.zero_le _) (Nat.zero_le _) ?_
    exact w_eI hX hr hlk hH ⟨rfl, Or.inl ⟨hok, hpo⟩⟩ dL_at_21
  · refine w_xcI hH (w_xrV (As := [.int x1, .int x2]) (rest := []) hX hK hE hH (c_X5_atx hst _ _ _ (hpx hok)) ck5 sh0 q2_77 q2_78 q2_79 q1_1 q2_80 hd_X5_at ⟨Nat.le_of_ble_eq_true rfl, Nat.le_of_ble_eq_true rfl⟩ ⟨rfl, rfl⟩ rfl hl.1 rfl (Nat.le_of_ble_eq_true rfl) dL_at_3 ⟨Nat.le_of_ble_eq_true rfl, Nat.le_of_ble_eq_true rfl⟩) (fun E u H1 locs1 q9 ce hXE hH hce hcv hcl => ?_)
    have hu := hXE.1
    have hXE := hXE.2
    rw [hu] at hH
    rcases hdom E hXE with rfl | rfl
    · refine vx_catch (name := wIO) hown [] (⟨0, 7, 10, 15⟩ : ExceptionTableEntry) [(⟨0, 7, 15, 26⟩ : ExceptionTableEntry)] (htab.trans rfl) (fun z hz => absurd hz List.not_mem_nil) (by decide) (by decide) (hts _ q2_75) (va_Nw.use rfl (hE.1 _ qn2_86)) hce hcv hcl ?_
      refine lv_astore (lv' := [(4, .ref q9), (0, .ref (G.1 0)), (1, .int x1), (2, .int x2)]) hx hb dL_at_10 hl (by decide) rfl (fun ls hl => ?_)
      refine lv_bipush (v := -31) hx hb dL_at_12 (by decide) ?_
      exact w_eI hX hr hlk hH ⟨rfl, Or.inr ⟨hok, wIO, hXE, Or.inl ⟨rfl, rfl⟩⟩⟩ dL_at_14
    · refine vx_catch (name := wIA) hown [(⟨0, 7, 10, 15⟩ : ExceptionTableEntry)] (⟨0, 7, 15, 26⟩ : ExceptionTableEntry) [] (htab.trans rfl) (fun z hz => by have hz := List.mem_singleton.mp hz; subst hz; exact Or.inr ⟨by decide, wIO, hts _ q2_75, hE.2.2.2.2.2.2⟩) (by decide) (by decide) (hts _ q2_76) (va_Nw.use rfl (hE.1 _ qn2_120)) hce hcv hcl ?_
      refine lv_astore (lv' := [(4, .ref q9), (0, .ref (G.1 0)), (1, .int x1), (2, .int x2)]) hx hb dL_at_15 hl (by decide) rfl (fun ls hl => ?_)
      refine lv_bipush (v := -32) hx hb dL_at_17 (by decide) ?_
      exact w_eI hX hr hlk hH ⟨rfl, Or.inr ⟨hok, wIA, hXE, Or.inr ⟨rfl, rfl⟩⟩⟩ dL_at_19
abbrev rm_L_key : Room := { frames := 10, cells := 1, slots := 6, locals := 162 }
abbrev hh_L_key : List (Nat × Nat × Nat × Nat) := [(0, 7, 10, 15), (0, 7, 15, 26)]
theorem hd_L_key : yL_key.cls ≠ "java/lang/invoke/MethodHandle" ∧ yL_key.cls ≠ "java/lang/invoke/VarHandle" ∧ (parseMethodDescriptor yL_key.desc).map (fun d => d.parameters.length) = some 3 := by decide +kernel
set_option maxRecDepth 100000 in
set_option maxHeartbeats 4000000 in
theorem c_L_key {l : Launch} {D : va_G} {cs : wC4} {ad : Nat → Nat} {b : Nat} {G : wG} (hst : l.stackTraces = false) (x1 : Int32) (x2 : Int32) (I : wI) (hp : pre_L_key x1 x2 I) : Met l yL_key (wsL_ yL_key cL_key 5 hh_L_key) rm_L_key (va_Pc [.ref (G.1 0), .int x1, .int x2] (wPr D cs ad b G I)) (va_Qi (post_L_key x1 x2 I) (wPo D cs b G) (fun q => b ≤ q)) 1 6 (fun q => b ≤ q) := by
  have hp : okC I := hp
  have hpx : ¬ (ok_X5_key x1 x2 I) → pre_X5_keyx x1 x2 I := fun h => ⟨hp, h⟩
  have hpn : ok_X5_key x1 x2 I → pre_X5_key x1 x2 I := fun h => ⟨hp, h⟩
  have hdom : ∀ (E : String) (u : wI), exc_X5_key x1 x2 I E u → E = wIO ∨ E = wIA := fun E u h => h.2.elim (fun q => Or.inl q.2) (fun q => Or.inr q.2)
  refine w_metW (by decide) (Nat.le_of_ble_eq_true rfl) ?_
  intro p e s m below meth c hX hr hlk htab hK hE hH ls hl
  have hX : CallFix p m c cL_key 5 s _ lw_all RL := hX
  have hx := hX.1
  have hb := hX.2.1
  have hown := hX.2.2.2.1
  have hts := hX.2.2.2.2
  have hl : lv_has ls 5 [(0, .ref (G.1 0)), (1, .int x1), (2, .int x2)] := hl
  refine lv_aload_n hx hb dL_key_0 rfl (lv_at hl 0 rfl) ?_
  refine lv_iload_n hx hb dL_key_1 rfl (lv_at hl 1 rfl) ?_
  refine lv_iload_n hx hb dL_key_2 rfl (lv_at hl 2 rfl) ?_
  by_cases hok : ok_X5_key x1 x2 I
  · refine w_cI hH (w_rV (As := [.int x1, .int x2]) (rest := []) hX hK hE hH (c_X5_key _ _ _ (hpn hok)) ck5 sh0 q2_137 q2_138 q2_139 q1_1 q2_140 hd_X5_key ⟨Nat.le_of_ble_eq_true rfl, Nat.le_of_ble_eq_true rfl⟩ ⟨rfl, rfl⟩ rfl hl.1 rfl (Nat.le_of_ble_eq_true rfl) dL_key_3 ⟨Nat.zero_le _, Nat.zero_le _⟩) (fun r1 I1 H locs hpo hH => ?_)
    refine lv_istore_n (lv' := [(3, .int r1), (0, .ref (G.1 0)), (1, .int x1), (2, .int x2)]) hx hb dL_key_6 rfl hl (by decide) rfl (fun ls hl => ?_)
    refine lv_goto (tgt := 20) hx hb dL_key_7 (by decide) ?_
    refine lv_iload_n hx hb dL_key_20 rfl (lv_at hl 0 rfl) ?_
    refine W.widen (k := 1) (n := 6) (Nat.zero_le _) (Nat.zero_le _) ?_
    exact w_eI hX hr hlk hH (Or.inl ⟨hok, hpo⟩) dL_key_21
  · refine w_xcI hH (w_xrV (As := [.int x1, .int x2]) (rest := []) hX hK hE hH (c_X5_keyx hst _ _ _ (hpx hok)) ck5 sh0 q2_137 q2_138 q2_139 q1_1 q2_140 hd_X5_key ⟨Nat.le_of_ble_eq_true rfl, Nat.le_of_ble_eq_true rfl⟩ ⟨rfl, rfl⟩ rfl hl.1 rfl (Nat.le_of_ble_eq_true rfl) dL_key_3 ⟨Nat.le_of_ble_eq_true rfl, Nat.le_of_ble_eq_true rfl⟩) (fun E u H1 locs1 q9 ce hXE hH hce hcv hcl => ?_)
    rcases hdom E u hXE with rfl | rfl
    · refine vx_catch (name := wIO) hown [] (⟨0, 7, 10, 15⟩ : ExceptionTableEntry) [(⟨0, 7, 15, 26⟩ : ExceptionTableEntry)] (htab.trans rfl) (fun z hz => absurd hz List.not_mem_nil) (by decide) (by decide) (hts _ q2_75) (va_Nw.use rfl (hE.1 _ qn2_86)) hce hcv hcl ?_
      refine lv_astore (lv' := [(4, .ref q9), (0, .ref (G.1 0)), (1, .int x1), (2, .int x2)]) hx hb dL_key_10 hl (by decide) rfl (fun ls hl => ?_)
      refine lv_bipush (v := -31) hx hb dL_key_12 (by decide) ?_
      exact w_eI hX hr hlk hH (Or.inr ⟨hok, wIO, hXE, Or.inl ⟨rfl, rfl⟩⟩) dL_key_14
    · refine vx_catch (name := wIA) hown [(⟨0, 7, 10, 15⟩ : ExceptionTableEntry)] (⟨0, 7, 15, 26⟩ : ExceptionTableEntry) [] (htab.trans rfl) (fun z hz => by have hz := List.mem_singleton.mp hz; subst hz; exact Or.inr ⟨by decide, wIO, hts _ q2_75, hE.2.2.2.2.2.2⟩) (by decide) (by decide) (hts _ q2_76) (va_Nw.use rfl (hE.1 _ qn2_120)) hce hcv hcl ?_
      refine lv_astore (lv' := [(4, .ref q9), (0, .ref (G.1 0)), (1, .int x1), (2, .int x2)]) hx hb dL_key_15 hl (by decide) rfl (fun ls hl => ?_)
      refine lv_bipush (v := -32) hx hb dL_key_17 (by decide) ?_
      exact w_eI hX hr hlk hH (Or.inr ⟨hok, wIA, hXE, Or.inr ⟨rfl, rfl⟩⟩) dL_key_19
abbrev rm_L_pair : Room := { frames := 10, cells := 1, slots := 6, locals := 163 }
abbrev hh_L_pair : List (Nat × Nat × Nat × Nat) := [(0, 9, 12, 15), (0, 9, 17, 26)]
theorem hd_L_pair : yL_pair.cls ≠ "java/lang/invoke/MethodHandle" ∧ yL_pair.cls ≠ "java/lang/invoke/VarHandle" ∧ (parseMethodDescriptor yL_pair.desc).map (fun d => d.parameters.length) = some 4 := by decide +kernel
set_option maxRecDepth 100000 in
set_option maxHeartbeats 4000000 in
theorem c_L_pair {l : Launch} {D : va_G} {cs : wC4} {ad : Nat → Nat} {b : Nat} {G : wG} (hst : l.stackTraces = false) (x1 : Int32) (x2 : Int32) (x3 : Int32) (I : wI) (hp : pre_L_pair x1 x2 x3 I) : Met l yL_pair (wsL_ yL_pair cL_pair 6 hh_L_pair) rm_L_pair (va_Pc [.ref (G.1 0), .int x1, .int x2, .int x3] (wPr D cs ad b G I)) (va_Qi (post_L_pair x1 x2 x3 I) (wPo D cs b G) (fun q => b ≤ q)) 1 6 (fun q => b ≤ q) := by
  have hp : okC I := hp
  have hpx : ¬ (ok_X5_pair x1 x2 x3 I) → pre_X5_pairx x1 x2 x3 I := fun h => ⟨hp, h⟩
  have hpn : ok_X5_pair x1 x2 x3 I → pre_X5_pair x1 x2 x3 I := fun h => ⟨hp, h⟩
  have hdom : ∀ (E : String) (u : wI), exc_X5_pair x1 x2 x3 I E u → E = wIO ∨ E = wIA := fun E u h => h.2.elim (fun q => Or.inl q.2) (fun q => Or.inr q.2)
  refine w_metW (by decide) (Nat.le_of_ble_eq_true rfl) ?_
  intro p e s m below meth c hX hr hlk htab hK hE hH ls hl
  have hX : CallFix p m c cL_pair 6 s _ lw_all RL := hX
  have hx := hX.1
  have hb := hX.2.1
  have hown := hX.2.2.2.1
  have hts := hX.2.2.2.2
  have hl : lv_has ls 6 [(0, .ref (G.1 0)), (1, .int x1), (2, .int x2), (3, .int x3)] := hl
  refine lv_aload_n hx hb dL_pair_0 rfl (lv_at hl 0 rfl) ?_
  refine lv_iload_n hx hb dL_pair_1 rfl (lv_at hl 1 rfl) ?_
  refine lv_iload_n hx hb dL_pair_2 rfl (lv_at hl 2 rfl) ?_
  refine lv_iload_n hx hb dL_pair_3 rfl (lv_at hl 3 rfl) ?_
  by_cases hok : ok_X5_pair x1 x2 x3 I
  · refine w_cI hH (w_rV (As := [.int x1, .int x2, .int x3]) (rest := []) hX hK hE hH (c_X5_pair _ _ _ _ (hpn hok)) ck5 sh0 q2_219 q2_220 q2_221 q1_1 q2_222 hd_X5_pair ⟨Nat.le_of_ble_eq_true rfl, Nat.le_of_ble_eq_true rfl⟩ ⟨rfl, rfl⟩ rfl hl.1 rfl (Nat.le_of_ble_eq_true rfl) dL_pair_4 ⟨Nat.zero_le _, Nat.zero_le _⟩) (fun r1 I1 H locs hpo hH => ?_)
    refine lv_istore (lv' := [(4, .int r1), (0, .ref (G.1 0)), (1, .int x1), (2, .int x2), (3, .int x3)]) hx hb dL_pair_7 hl (by decide) rfl (fun ls hl => ?_)
    refine lv_goto (tgt := 22) hx hb dL_pair_9 (by decide) ?_
    refine lv_iload hx hb dL_pair_22 (lv_at hl 0 rfl) ?_
    refine W.widen (k := 1) (n := 6) (Nat.zero_le _) (Nat.zero_le _) ?_
    exact w_eI hX hr hlk hH (Or.inl ⟨hok, hpo⟩) dL_pair_24
  · refine w_xcI hH (w_xrV (As := [.int x1, .int x2, .int x3]) (rest := []) hX hK hE hH (c_X5_pairx hst _ _ _ _ (hpx hok)) ck5 sh0 q2_219 q2_220 q2_221 q1_1 q2_222 hd_X5_pair ⟨Nat.le_of_ble_eq_true rfl, Nat.le_of_ble_eq_true rfl⟩ ⟨rfl, rfl⟩ rfl hl.1 rfl (Nat.le_of_ble_eq_true rfl) dL_pair_4 ⟨Nat.le_of_ble_eq_true rfl, Nat.le_of_ble_eq_true rfl⟩) (fun E u H1 locs1 q9 ce hXE hH hce hcv hcl => ?_)
    rcases hdom E u hXE with rfl | rfl
    · refine vx_catch (name := wIO) hown [] (⟨0, 9, 12, 15⟩ : ExceptionTableEntry) [(⟨0, 9, 17, 26⟩ : ExceptionTableEntry)] (htab.trans rfl) (fun z hz => absurd hz List.not_mem_nil) (by decide) (by decide) (hts _ q2_75) (va_Nw.use rfl (hE.1 _ qn2_86)) hce hcv hcl ?_
      refine lv_astore (lv' := [(5, .ref q9), (0, .ref (G.1 0)), (1, .int x1), (2, .int x2), (3, .int x3)]) hx hb dL_pair_12 hl (by decide) rfl (fun ls hl => ?_)
      refine lv_bipush (v := -31) hx hb dL_pair_14 (by decide) ?_
      exact w_eI hX hr hlk hH (Or.inr ⟨hok, wIO, hXE, Or.inl ⟨rfl, rfl⟩⟩) dL_pair_16
    · refine vx_catch (name := wIA) hown [(⟨0, 9, 12, 15⟩ : ExceptionTableEntry)] (⟨0, 9, 17, 26⟩ : ExceptionTableEntry) [] (htab.trans rfl) (fun z hz => by have hz := List.mem_singleton.mp hz; subst hz; exact Or.inr ⟨by decide, wIO, hts _ q2_75, hE.2.2.2.2.2.2⟩) (by decide) (by decide) (hts _ q2_76) (va_Nw.use rfl (hE.1 _ qn2_120)) hce hcv hcl ?_
      refine lv_astore (lv' := [(5, .ref q9), (0, .ref (G.1 0)), (1, .int x1), (2, .int x2), (3, .int x3)]) hx hb dL_pair_17 hl (by decide) rfl (fun ls hl => ?_)
      refine lv_bipush (v := -32) hx hb dL_pair_19 (by decide) ?_
      exact w_eI hX hr hlk hH (Or.inr ⟨hok, wIA, hXE, Or.inr ⟨rfl, rfl⟩⟩) dL_pair_21
abbrev rm_L_count : Room := { frames := 9, cells := 1, slots := 6, locals := 141 }
abbrev hh_L_count : List (Nat × Nat × Nat × Nat) := [(0, 6, 9, 26)]
theorem hd_L_count : yL_count.cls ≠ "java/lang/invoke/MethodHandle" ∧ yL_count.cls ≠ "java/lang/invoke/VarHandle" ∧ (parseMethodDescriptor yL_count.desc).map (fun d => d.parameters.length) = some 2 := by decide +kernel
set_option maxRecDepth 100000 in
set_option maxHeartbeats 4000000 in
theorem c_L_count {l : Launch} {D : va_G} {cs : wC4} {ad : Nat → Nat} {b : Nat} {G : wG} (hst : l.stackTraces = false) (x1 : Int32) (I : wI) (hp : pre_L_count x1 I) : Met l yL_count (wsL_ yL_count cL_count 4 hh_L_count) rm_L_count (va_Pc [.ref (G.1 0), .int x1] (wPr D cs ad b G I)) (va_Qi (fun r I' => I' = I ∧ post_L_count x1 I r) (wPo D cs b G) (fun q => b ≤ q)) 1 6 (fun q => b ≤ q) := by
  have hp : okC I := hp
  have hpx : ¬ (ok_X5_count x1 I) → pre_X5_countx x1 I := fun h => ⟨hp, h⟩
  have hpn : ok_X5_count x1 I → pre_X5_count x1 I := fun h => ⟨hp, h⟩
  have hdom : ∀ (E : String), exc_X5_count x1 I E → E = wIA := fun E h => h
  refine w_metW (by decide) (Nat.le_of_ble_eq_true rfl) ?_
  intro p e s m below meth c hX hr hlk htab hK hE hH ls hl
  have hX : CallFix p m c cL_count 4 s _ lw_all RL := hX
  have hx := hX.1
  have hb := hX.2.1
  have hown := hX.2.2.2.1
  have hts := hX.2.2.2.2
  have hl : lv_has ls 4 [(0, .ref (G.1 0)), (1, .int x1)] := hl
  refine lv_aload_n hx hb dL_count_0 rfl (lv_at hl 0 rfl) ?_
  refine lv_iload_n hx hb dL_count_1 rfl (lv_at hl 1 rfl) ?_
  by_cases hok : ok_X5_count x1 I
  · refine w_cIp hH (w_rV (As := [.int x1]) (rest := []) hX hK hE hH (c_X5_count _ _ (hpn hok)) ck5 sh0 q2_236 q2_237 q2_238 q1_1 q2_239 hd_X5_count ⟨Nat.le_of_ble_eq_true rfl, Nat.le_of_ble_eq_true rfl⟩ ⟨rfl, rfl⟩ rfl hl.1 rfl (Nat.le_of_ble_eq_true rfl) dL_count_2 ⟨Nat.zero_le _, Nat.zero_le _⟩) (fun r1 H locs hpo hH => ?_)
    refine lv_istore_n (lv' := [(2, .int r1), (0, .ref (G.1 0)), (1, .int x1)]) hx hb dL_count_5 rfl hl (by decide) rfl (fun ls hl => ?_)
    refine lv_goto (tgt := 13) hx hb dL_count_6 (by decide) ?_
    refine lv_iload_n hx hb dL_count_13 rfl (lv_at hl 0 rfl) ?_
    refine W.widen (k := 1) (n := 6) (Nat.zero_le _) (Nat.zero_le _) ?_
    exact w_eI hX hr hlk hH ⟨rfl, Or.inl ⟨hok, hpo⟩⟩ dL_count_14
  · refine w_xcI hH (w_xrV (As := [.int x1]) (rest := []) hX hK hE hH (c_X5_countx hst _ _ (hpx hok)) ck5 sh0 q2_236 q2_237 q2_238 q1_1 q2_239 hd_X5_count ⟨Nat.le_of_ble_eq_true rfl, Nat.le_of_ble_eq_true rfl⟩ ⟨rfl, rfl⟩ rfl hl.1 rfl (Nat.le_of_ble_eq_true rfl) dL_count_2 ⟨Nat.le_of_ble_eq_true rfl, Nat.le_of_ble_eq_true rfl⟩) (fun E u H1 locs1 q9 ce hXE hH hce hcv hcl => ?_)
    have hu := hXE.1
    have hXE := hXE.2
    rw [hu] at hH
    rcases hdom E hXE with rfl
    · refine vx_catch (name := wIA) hown [] (⟨0, 6, 9, 26⟩ : ExceptionTableEntry) [] (htab.trans rfl) (fun z hz => absurd hz List.not_mem_nil) (by decide) (by decide) (hts _ q2_76) (va_Nw.use rfl (hE.1 _ qn2_120)) hce hcv hcl ?_
      refine lv_astore_n (lv' := [(3, .ref q9), (0, .ref (G.1 0)), (1, .int x1)]) hx hb dL_count_9 rfl hl (by decide) rfl (fun ls hl => ?_)
      refine lv_bipush (v := -32) hx hb dL_count_10 (by decide) ?_
      exact w_eI hX hr hlk hH ⟨rfl, Or.inr ⟨hok, wIA, hXE, ⟨rfl, rfl⟩⟩⟩ dL_count_12
abbrev rm_L_openIn : Room := { frames := 9, cells := 1, slots := 6, locals := 142 }
abbrev hh_L_openIn : List (Nat × Nat × Nat × Nat) := [(0, 6, 9, 26)]
theorem hd_L_openIn : yL_openIn.cls ≠ "java/lang/invoke/MethodHandle" ∧ yL_openIn.cls ≠ "java/lang/invoke/VarHandle" ∧ (parseMethodDescriptor yL_openIn.desc).map (fun d => d.parameters.length) = some 2 := by decide +kernel
set_option maxRecDepth 100000 in
set_option maxHeartbeats 4000000 in
theorem c_L_openIn {l : Launch} {D : va_G} {cs : wC4} {ad : Nat → Nat} {b : Nat} {G : wG} (hst : l.stackTraces = false) (x1 : Int32) (I : wI) (hp : pre_L_openIn x1 I) : Met l yL_openIn (wsL_ yL_openIn cL_openIn 4 hh_L_openIn) rm_L_openIn (va_Pc [.ref (G.1 0), .int x1] (wPr D cs ad b G I)) (va_Qi (post_L_openIn x1 I) (wPo D cs b G) (fun q => b ≤ q)) 1 6 (fun q => b ≤ q) := by
  have hp : okC I := hp
  have hpx : ¬ (ok_X5_openIn x1 I) → pre_X5_openInx x1 I := fun h => ⟨hp, h⟩
  have hpn : ok_X5_openIn x1 I → pre_X5_openIn x1 I := fun h => ⟨hp, h⟩
  have hdom : ∀ (E : String) (u : wI), exc_X5_openIn x1 I E u → E = wIA := fun E u h => h.2
  refine w_metW (by decide) (Nat.le_of_ble_eq_true rfl) ?_
  intro p e s m below meth c hX hr hlk htab hK hE hH ls hl
  have hX : CallFix p m c cL_openIn 4 s _ lw_all RL := hX
  have hx := hX.1
  have hb := hX.2.1
  have hown := hX.2.2.2.1
  have hts := hX.2.2.2.2
  have hl : lv_has ls 4 [(0, .ref (G.1 0)), (1, .int x1)] := hl
  refine lv_aload_n hx hb dL_openIn_0 rfl (lv_at hl 0 rfl) ?_
  refine lv_iload_n hx hb dL_openIn_1 rfl (lv_at hl 1 rfl) ?_
  by_cases hok : ok_X5_openIn x1 I
  · refine w_cI hH (w_rV (As := [.int x1]) (rest := []) hX hK hE hH (c_X5_openIn _ _ (hpn hok)) ck5 sh0 q3_26 q3_27 q3_28 q1_1 q3_29 hd_X5_openIn ⟨Nat.le_of_ble_eq_true rfl, Nat.le_of_ble_eq_true rfl⟩ ⟨rfl, rfl⟩ rfl hl.1 rfl (Nat.le_of_ble_eq_true rfl) dL_openIn_2 ⟨Nat.zero_le _, Nat.zero_le _⟩) (fun r1 I1 H locs hpo hH => ?_)
    refine lv_istore_n (lv' := [(2, .int r1), (0, .ref (G.1 0)), (1, .int x1)]) hx hb dL_openIn_5 rfl hl (by decide) rfl (fun ls hl => ?_)
    refine lv_goto (tgt := 13) hx hb dL_openIn_6 (by decide) ?_
    refine lv_iload_n hx hb dL_openIn_13 rfl (lv_at hl 0 rfl) ?_
    refine W.widen (k := 1) (n := 6) (Nat.zero_le _) (Nat.zero_le _) ?_
    exact w_eI hX hr hlk hH (Or.inl ⟨hok, hpo⟩) dL_openIn_14
  · refine w_xcI hH (w_xrV (As := [.int x1]) (rest := []) hX hK hE hH (c_X5_openInx hst _ _ (hpx hok)) ck5 sh0 q3_26 q3_27 q3_28 q1_1 q3_29 hd_X5_openIn ⟨Nat.le_of_ble_eq_true rfl, Nat.le_of_ble_eq_true rfl⟩ ⟨rfl, rfl⟩ rfl hl.1 rfl (Nat.le_of_ble_eq_true rfl) dL_openIn_2 ⟨Nat.le_of_ble_eq_true rfl, Nat.le_of_ble_eq_true rfl⟩) (fun E u H1 locs1 q9 ce hXE hH hce hcv hcl => ?_)
    rcases hdom E u hXE with rfl
    · refine vx_catch (name := wIA) hown [] (⟨0, 6, 9, 26⟩ : ExceptionTableEntry) [] (htab.trans rfl) (fun z hz => absurd hz List.not_mem_nil) (by decide) (by decide) (hts _ q2_76) (va_Nw.use rfl (hE.1 _ qn2_120)) hce hcv hcl ?_
      refine lv_astore_n (lv' := [(3, .ref q9), (0, .ref (G.1 0)), (1, .int x1)]) hx hb dL_openIn_9 rfl hl (by decide) rfl (fun ls hl => ?_)
      refine lv_bipush (v := -32) hx hb dL_openIn_10 (by decide) ?_
      exact w_eI hX hr hlk hH (Or.inr ⟨hok, wIA, hXE, ⟨rfl, rfl⟩⟩) dL_openIn_12
abbrev rm_L_ifTurned : Room := { frames := 10, cells := 1, slots := 6, locals := 162 }
abbrev hh_L_ifTurned : List (Nat × Nat × Nat × Nat) := [(0, 7, 10, 15), (0, 7, 15, 26)]
theorem hd_L_ifTurned : yL_ifTurned.cls ≠ "java/lang/invoke/MethodHandle" ∧ yL_ifTurned.cls ≠ "java/lang/invoke/VarHandle" ∧ (parseMethodDescriptor yL_ifTurned.desc).map (fun d => d.parameters.length) = some 3 := by decide +kernel
set_option maxRecDepth 100000 in
set_option maxHeartbeats 4000000 in
theorem c_L_ifTurned {l : Launch} {D : va_G} {cs : wC4} {ad : Nat → Nat} {b : Nat} {G : wG} (hst : l.stackTraces = false) (x1 : Int32) (x2 : Int32) (I : wI) (hp : pre_L_ifTurned x1 x2 I) : Met l yL_ifTurned (wsL_ yL_ifTurned cL_ifTurned 5 hh_L_ifTurned) rm_L_ifTurned (va_Pc [.ref (G.1 0), .int x1, .int x2] (wPr D cs ad b G I)) (va_Qi (post_L_ifTurned x1 x2 I) (wPo D cs b G) (fun q => b ≤ q)) 1 6 (fun q => b ≤ q) := by
  have hp : okC I := hp
  have hpx : ¬ (ok_X5_ifTurned x1 x2 I) → pre_X5_ifTurnedx x1 x2 I := fun h => ⟨hp, h⟩
  have hpn : ok_X5_ifTurned x1 x2 I → pre_X5_ifTurned x1 x2 I := fun h => ⟨hp, h⟩
  have hdom : ∀ (E : String) (u : wI), exc_X5_ifTurned x1 x2 I E u → E = wIO ∨ E = wIA := fun E u h => h.2.elim (fun q => Or.inl q.2) (fun q => Or.inr q.2)
  refine w_metW (by decide) (Nat.le_of_ble_eq_true rfl) ?_
  intro p e s m below meth c hX hr hlk htab hK hE hH ls hl
  have hX : CallFix p m c cL_ifTurned 5 s _ lw_all RL := hX
  have hx := hX.1
  have hb := hX.2.1
  have hown := hX.2.2.2.1
  have hts := hX.2.2.2.2
  have hl : lv_has ls 5 [(0, .ref (G.1 0)), (1, .int x1), (2, .int x2)] := hl
  refine lv_aload_n hx hb dL_ifTurned_0 rfl (lv_at hl 0 rfl) ?_
  refine lv_iload_n hx hb dL_ifTurned_1 rfl (lv_at hl 1 rfl) ?_
  refine lv_iload_n hx hb dL_ifTurned_2 rfl (lv_at hl 2 rfl) ?_
  by_cases hok : ok_X5_ifTurned x1 x2 I
  · refine w_cI hH (w_rV (As := [.int x1, .int x2]) (rest := []) hX hK hE hH (c_X5_ifTurned _ _ _ (hpn hok)) ck5 sh0 q3_70 q3_71 q3_72 q1_1 q3_73 hd_X5_ifTurned ⟨Nat.le_of_ble_eq_true rfl, Nat.le_of_ble_eq_true rfl⟩ ⟨rfl, rfl⟩ rfl hl.1 rfl (Nat.le_of_ble_eq_true rfl) dL_ifTurned_3 ⟨Nat.zero_le _, Nat.zero_le _⟩) (fun r1 I1 H locs hpo hH => ?_)
    refine lv_istore_n (lv' := [(3, .int r1), (0, .ref (G.1 0)), (1, .int x1), (2, .int x2)]) hx hb dL_ifTurned_6 rfl hl (by decide) rfl (fun ls hl => ?_)
    refine lv_goto (tgt := 20) hx hb dL_ifTurned_7 (by decide) ?_
    refine lv_iload_n hx hb dL_ifTurned_20 rfl (lv_at hl 0 rfl) ?_
    refine W.widen (k := 1) (n := 6) (Nat.zero_le _) (Nat.zero_le _) ?_
    exact w_eI hX hr hlk hH (Or.inl ⟨hok, hpo⟩) dL_ifTurned_21
  · refine w_xcI hH (w_xrV (As := [.int x1, .int x2]) (rest := []) hX hK hE hH (c_X5_ifTurnedx hst _ _ _ (hpx hok)) ck5 sh0 q3_70 q3_71 q3_72 q1_1 q3_73 hd_X5_ifTurned ⟨Nat.le_of_ble_eq_true rfl, Nat.le_of_ble_eq_true rfl⟩ ⟨rfl, rfl⟩ rfl hl.1 rfl (Nat.le_of_ble_eq_true rfl) dL_ifTurned_3 ⟨Nat.le_of_ble_eq_true rfl, Nat.le_of_ble_eq_true rfl⟩) (fun E u H1 locs1 q9 ce hXE hH hce hcv hcl => ?_)
    rcases hdom E u hXE with rfl | rfl
    · refine vx_catch (name := wIO) hown [] (⟨0, 7, 10, 15⟩ : ExceptionTableEntry) [(⟨0, 7, 15, 26⟩ : ExceptionTableEntry)] (htab.trans rfl) (fun z hz => absurd hz List.not_mem_nil) (by decide) (by decide) (hts _ q2_75) (va_Nw.use rfl (hE.1 _ qn2_86)) hce hcv hcl ?_
      refine lv_astore (lv' := [(4, .ref q9), (0, .ref (G.1 0)), (1, .int x1), (2, .int x2)]) hx hb dL_ifTurned_10 hl (by decide) rfl (fun ls hl => ?_)
      refine lv_bipush (v := -31) hx hb dL_ifTurned_12 (by decide) ?_
      exact w_eI hX hr hlk hH (Or.inr ⟨hok, wIO, hXE, Or.inl ⟨rfl, rfl⟩⟩) dL_ifTurned_14
    · refine vx_catch (name := wIA) hown [(⟨0, 7, 10, 15⟩ : ExceptionTableEntry)] (⟨0, 7, 15, 26⟩ : ExceptionTableEntry) [] (htab.trans rfl) (fun z hz => by have hz := List.mem_singleton.mp hz; subst hz; exact Or.inr ⟨by decide, wIO, hts _ q2_75, hE.2.2.2.2.2.2⟩) (by decide) (by decide) (hts _ q2_76) (va_Nw.use rfl (hE.1 _ qn2_120)) hce hcv hcl ?_
      refine lv_astore (lv' := [(4, .ref q9), (0, .ref (G.1 0)), (1, .int x1), (2, .int x2)]) hx hb dL_ifTurned_15 hl (by decide) rfl (fun ls hl => ?_)
      refine lv_bipush (v := -32) hx hb dL_ifTurned_17 (by decide) ?_
      exact w_eI hX hr hlk hH (Or.inr ⟨hok, wIA, hXE, Or.inr ⟨rfl, rfl⟩⟩) dL_ifTurned_19
