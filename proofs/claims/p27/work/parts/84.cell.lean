/-! ===== the law's script, read ===== -/
def pre_L_cell (x1 : Int32) (I : wI) : Prop := isN 100 x1
def post_L_cell (x1 : Int32) (I : wI) (r : Int32) : Prop := True
def wPrX (D : va_G) (cs : wC4) (ad : Nat → Nat) (b : Nat) (G : wG) (a0 L : Nat) (xs : Nat → Int32) (I : wI) (U : State) : Prop := wPr D cs ad b G I U ∧ va_X a0 L xs U U.heap ∧ ¬ b ≤ a0
theorem wPrX_blind {D : va_G} {cs : wC4} {ad : Nat → Nat} {b : Nat} {G : wG} {a0 L : Nat} {xs : Nat → Int32} {I : wI} {av : List Value} : FrameBlind (va_Pc av (wPrX D cs ad b G a0 L xs I)) := by
  intro a U g mk h
  exact ⟨h.1, (wPr_blind (av := a.toList) a U g mk ⟨rfl, h.2.1⟩).2, va_X.moved (u := U) (U := U.calling g mk a) (Vm.Alike.refl U.vm) h.2.2.1, h.2.2.2⟩
section WC
variable {p : Program} {l : Launch} {e : Env} {R : Room} {s : State} {m : MethodId} {args : Array Value} {below : List Frame} {meth : Method} {c : Code} {H : Heap} {locs : List Loc} {cells slots : Nat} {Q : State → Prop}
variable {cc bytes : ByteArray} {nL pc : Nat} {ls : Array Slot} {rest st0 : List Value} {own : String} {D : va_G} {cs : wC4} {ad : Nat → Nat} {b : Nat} {G B : wG} {I I' : wI} {a0 L : Nat} {xs : Nat → Int32}
variable {y : MethodName} {maxL n mc ms ix : Nat} {ret : Option FieldType} {rm : Room} {av As : List Value} {Qc : Array Value → State → Outcome → State → Prop} {a : Array Value}
theorem w_metC (hy : plainName y.cls = true) (hlen : (lg_sl av).length ≤ nL)
    (body : ∀ (p : Program) (e : Env) (s : State) (m : MethodId) (below : List Frame) (meth : Method) (c : Code), CallFix p m c cc nL s av.toArray lw_all y.cls → meth.sig.returnType = ret → meth.locks = false → va_K D vwCl (wTys cs) s → wEn ad b s s.heap → wH D cs b G I s s.heap [] → va_X a0 L xs s s.heap → ¬ b ≤ a0 →
      ∀ ls : Array Slot, lv_has ls nL (lv_args 0 av) → W p l e rm s m av.toArray below meth c s.heap [] 0 0 (MQ below Qc av.toArray s mc ms (fun q => b ≤ q)) (F0 m 0 ls [])) :
    Met l y (ws_ y cc nL ret) rm (va_Pc av (wPrX D cs ad b G a0 L xs I)) Qc mc ms (fun q => b ≤ q) := by
  refine Met.ofW (cc := cc) (maxL := nL) (ret := ret) hy rfl ?_
  intro p e s m args below meth c s₁ B hml hv
  obtain ⟨rfl, ⟨hK, hE, hP, hO⟩, hS0, hbA⟩ := hv
  have hl := lv_entry av (n := nL) hlen
  rw [lg_entry_eq]
  exact body p e s m below meth c ⟨B.exec, B.bytes, hml, findClass_of_methodNamed B.named, ws_ts (atoms_spec (ws := ws_ y cc nL ret) B.pre)⟩ B.returns B.notSynchronized hK hE ⟨hP, va_S.rf, hO⟩ hS0 hbA _ hl
theorem w_rSC (hX : CallFix p m c cc nL s args lw_all own) (hK : va_K D vwCl (wTys cs) s) (hE : wEn ad b s s.heap) (hS0 : va_X a0 L xs s s.heap) (ha0 : a0 < b) (hbb : b = s.heap.size) (hH : wH D cs b G I s H locs) (hM : Met l y (ws_ y bytes maxL ret) rm (va_Pc As (wPrX D cs ad b G a0 L xs I)) Qc mc ms (fun q => b ≤ q))
    (q1 : Cond.methodLink own ix y ∈ lw_all) (q2 : Cond.static y ∈ lw_all) (q4 : Cond.initialized y.cls ∈ lw_all) (q5 : Cond.code y bytes maxL ret ∈ lw_all)
    (hd : y.cls ≠ "java/lang/invoke/MethodHandle" ∧ y.cls ≠ "java/lang/invoke/VarHandle" ∧ (parseMethodDescriptor y.desc).map (fun d => d.parameters.length) = some n) (hR : rm.frames + 1 ≤ R.frames ∧ 8 + (maxL + 11) + rm.locals ≤ R.locals) (hrm : rm.cells = mc ∧ rm.slots = ms) (hn : As.length = n) (hls : ls.size = nL) (hst0 : st0 = As.reverse ++ rest) (hst : (rest.map fun v => v.category).sum ≤ 8) (hdg : decode cc pc = .ok (.invokestatic ix, 3)) (hf : cells + mc ≤ R.cells ∧ slots + ms ≤ R.slots) :
    va_Run p l e R s m args below meth c H locs cells slots mc ms (F0 m pc ls st0) rest (Qc As.toArray) (fun q => b ≤ q) :=
  va_runS (As := As) (rest := rest) hX hM ⟨callB_of n hX.2.2.2.2 (ws_good q5) rfl hrm.1 hrm.2 (hX.2.2.2.2 _ q4) (hX.2.2.2.2 _ q1) hd hR, hX.2.2.2.2 _ q2⟩ ⟨wPrX_blind, fun U hU hW => ⟨rfl, (wPr_of (av := As) hK hE hH U hU hW).2, by
    have h1 : va_X a0 L xs s H := hS0.kept (hH.2.1.2.1 a0 (by omega) (by show ¬ b ≤ a0; omega))
    rw [hU]
    exact h1.moved hW.alike, by omega⟩⟩ rfl hn hls hst0 (lv_room hst) hdg hf
theorem lw_fit0 (h : n ≤ 3000) : n + 0 ≤ room_1.cells ∧ 12 * n + 0 ≤ room_1.slots := by
  show n + 0 ≤ 600130 ∧ 12 * n + 0 ≤ 7301080
  omega
theorem lw_fit {k : Nat} (h : n + k ≤ 3000) (hm : ms ≤ 12 * k) : n + k ≤ room_1.cells ∧ 12 * n + ms ≤ room_1.slots := by
  show n + k ≤ 600130 ∧ 12 * n + ms ≤ 7301080
  omega
end WC
abbrev rm_L_cell : Room := { frames := 0, cells := 0, slots := 0, locals := 0 }
theorem hd_L_cell : yL_cell.cls = RL ∧ yL_cell.cls ≠ "java/lang/invoke/MethodHandle" ∧ yL_cell.cls ≠ "java/lang/invoke/VarHandle" ∧ (parseMethodDescriptor yL_cell.desc).map (fun d => d.parameters.length) = some 2 := by decide +kernel
set_option maxRecDepth 100000 in
set_option maxHeartbeats 4000000 in
theorem c_L_cell {l : Launch} {D : va_G} {cs : wC4} {ad : Nat → Nat} {b : Nat} {G : wG} {a0 L : Nat} {xs : Nat → Int32} (hL : L ≤ 260) (x1 : Int32) (I : wI) (hp : pre_L_cell x1 I) : Met l yL_cell (ws_ yL_cell cL_cell 2 (some .int)) rm_L_cell (va_Pc [.ref a0, .int x1] (wPrX D cs ad b G a0 L xs I)) (va_Qi (fun r I' => I' = I ∧ post_L_cell x1 I r) (wPo D cs b G) (fun q => b ≤ q)) 0 0 (fun q => b ≤ q) := by
  refine w_metC (by decide) (Nat.le_of_ble_eq_true rfl) ?_
  intro p e s m below meth c hX hr hlk hK hE hH hS0 hbA ls hl
  have hX : CallFix p m c cL_cell 2 s _ lw_all RL := hX
  have hx := hX.1
  have hb := hX.2.1
  have hown := hX.2.2.2.1
  have hts := hX.2.2.2.2
  have hl : lv_has ls 2 [(0, .ref a0), (1, .int x1)] := hl
  obtain ⟨i, hi, rfl⟩ := hp
  have ha0 : a0 < s.heap.size := by
    obtain ⟨scr, h1, _⟩ := hS0
    exact (Array.getElem?_eq_some_iff.mp h1).1
  refine lv_iload_n hx hb dL_cell_0 rfl (lv_at hl 1 rfl) ?_
  refine lv_aload_n hx hb dL_cell_1 rfl (lv_at hl 0 rfl) ?_
  refine va_slen hx hb hS0 ha0 hbA hH.2.1 dL_cell_2 ?_
  refine lv_icmp_ge (tgt := 12) hx hb dL_cell_3 (by decide) (fun hc => ?_) (fun hc => ?_)
  · refine lv_ldc hx hb hown (hts _ q1_203) dL_cell_12 ?_
    refine lv_iload_n hx hb dL_cell_14 rfl (lv_at hl 1 rfl) ?_
    refine lv_iconst (v := 1) hx hb dL_cell_15 (by decide) ?_
    refine lv_iadd hx hb dL_cell_16 ?_
    refine lv_imul hx hb dL_cell_17 ?_
    exact w_eI hX hr hlk hH ⟨rfl, trivial⟩ dL_cell_18
  · have hin : vp_in (nI i) L := i_in (by
      have hc : ¬ nI L ≤ nI i := hc
      rw [i_le (by omega) (by omega)] at hc
      omega) (by omega)
    refine lv_aload_n hx hb dL_cell_6 rfl (lv_at hl 0 rfl) ?_
    refine lv_iload_n hx hb dL_cell_7 rfl (lv_at hl 1 rfl) ?_
    refine va_sld hx hb hS0 ha0 hbA hH.2.1 hin dL_cell_8 ?_
    refine lv_goto (tgt := 18) hx hb dL_cell_9 (by decide) ?_
    exact w_eI hX hr hlk hH ⟨rfl, trivial⟩ dL_cell_18
